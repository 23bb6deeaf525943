/**
 * Section 2 with promises 19 to 28 (looks, odds, means, plans, books): the bounds told, nothing told yet, as many as
 * there may be, none that fits, all that fit.
 */
public final class EdgesOfLooksTest {
    private static final int NONE = -1, BAD = -2, FULL = -4;
    private static final int MIN = Integer.MIN_VALUE, MAX = Integer.MAX_VALUE;
    private static final long NO = Long.MIN_VALUE;
    private static final int[] FAR = {MIN, MIN + 1, -1000, 1001, MAX - 1, MAX};
    /** At hour 4 GLOW is 0. */
    private static final int DARK = 4;

    public static void main(String[] args) {
        looksTold();
        looksRefused();
        looksFull();
        looksFromNow();
        tastesAtEnds();
        tastesOfSeveral();
        gracesAtEnds();
        gracesOfYears();
        canAtEnds();
        canKeepsGrace();
        choicesOutside();
        oddsInTwentyFour();
        oddsOutside();
        meanInLowestTerms();
        meanOutside();
        planTold();
        planRefused();
        planFull();
        planGoes();
        planHours();
        planLeaves();
        bookTold();
        bookFull();
        lookedAt();
        Due.end();
    }

    private static ExemptBeauty town(int... vs) {
        ExemptBeauty x = new ExemptBeauty();
        for (int v : vs) {
            x.person(0, v, 0);
        }
        x.hour(DARK);
        return x;
    }

    // ---- looks

    private static void looksTold() {
        for (int n = 0; n <= 20; n++) {
            ExemptBeauty x = town(5);
            Due.is("19 behind " + n, x.see(0, 0, true, n), 1);
            Due.is("20 fits tastes up to 5", x.tastes(0), 6);
        }
        for (int part = 0; part < 6; part++) {
            ExemptBeauty x = town(0, 0, 0, 0, 0, 0);
            x.grace(5, part, 9);
            x.grace(4, 5 - part, 7);
            Due.is("19 part " + part, x.see(5, part, true, 0), 1);
            Due.is("19 part " + (5 - part), x.see(4, 5 - part, false, 20), 2);
            Due.is("20 it is 9, the other 7", x.tastes(0), 2);
            Due.is("20 it is 9, the other 7", x.tastes(1), 8);
        }
    }

    private static void looksRefused() {
        ExemptBeauty x = town(5);
        int[] parts = {-1, 6, 7, MIN, MAX};
        for (int part : parts) {
            Due.is("19 part " + part, x.see(0, part, true, 0), NONE);
            Due.is("19 part ahead of n", x.see(0, part, true, 21), NONE);
        }
        Due.is("19 n -1", x.see(0, 0, true, -1), BAD);
        Due.is("19 n 21", x.see(0, 0, true, 21), BAD);
        for (int far : FAR) {
            Due.is("19 n " + far, x.see(0, 0, true, far), BAD);
            Due.is("19 person " + far, x.see(far, 0, true, 0), NONE);
        }
        Due.is("19 person 1", x.see(1, 0, true, 0), NONE);
        Due.is("19 person -2", x.see(-2, 0, true, 0), NONE);
        Due.is("19 person ahead of n", x.see(1, 0, true, 21), NONE);
        Due.is("19 none came", x.count(2), 0);
        Due.is("20 all fit none", x.tastes(0), 61);
    }

    private static void looksFull() {
        ExemptBeauty x = town(5);
        Due.is("19 none yet, and none then", x.see(-1, 0, true, 0), 0);
        for (int k = 1; k <= 6; k++) {
            Due.is("19 look " + k, x.see(0, k - 1, true, 0), k);
            Due.is("35 looks", x.count(2), k);
        }
        Due.is("19 a seventh", x.see(0, 0, false, 0), FULL);
        Due.is("19 part ahead of full", x.see(0, 6, false, 0), NONE);
        Due.is("19 n ahead of full", x.see(0, 0, false, 21), BAD);
        Due.is("35 six", x.count(2), 6);
        Due.is("20 the seventh is not there", x.tastes(0), 6);
        x.grace(0, 5, 3);
        Due.is("20 the sixth is", x.tastes(0), 4);
        int[] others = {0, -1, 6, 21, MIN, MAX};
        for (int other : others) {
            Due.is("19 none then, whatever the others are", x.see(-1, other, other > 0, other), 0);
            Due.is("35 none then", x.count(2), 0);
            Due.is("20 none then", x.tastes(0), 61);
            Due.is("19 one again", x.see(0, 5, false, 20), 1);
            Due.is("20 one again", x.tastes(0), 57);
        }
    }

    /** Of one of 30 who loses part 2 at 40. */
    private static void looksFromNow() {
        ExemptBeauty x = new ExemptBeauty();
        x.person(0, 8, 30);
        x.hour(DARK);
        x.see(0, 2, true, 9);
        Due.is("20 behind 9 it is 39", x.tastes(1), 0);
        Due.is("20 behind 9 it is 39", x.tastes(0), 9);
        x.pass(1);
        Due.is("20 behind 9 from now it is 40", x.tastes(0), 1);
        x.see(-1, 0, true, 0);
        x.see(0, 2, true, 0);
        Due.is("20 now", x.tastes(0), 9);
        x.see(0, 2, false, 20);
        Due.is("20 now, and not behind 20", x.tastes(0), 8);
        Due.is("20 now, and not behind 20", x.tastes(1), 1);
        x.leave(0, true);
        Due.is("20 who left is let off as before", x.tastes(0), 8);
        Due.is("10 no year went", x.told(0), 1);
        Due.is("3 nobody grew older", x.of(0, 2), 31);
    }

    /** FINE of a part, whether it is seen to be let off, how many tastes then, the least. */
    private static void tastesAtEnds() {
        int[] fines = {-2, -1, 0, 1, 58, 59, 60, 61};
        int[] letOff = {0, 0, 1, 2, 59, 60, 61, 61};
        for (int k = 0; k < fines.length; k++) {
            ExemptBeauty x = town(0);
            Due.office(x, (fines[k] < 0 ? "mind " : "like ") + Math.abs(fines[k]) + " t=4");
            x.see(0, 4, true, 0);
            Due.is("20 let off, fine is " + fines[k], x.tastes(0), letOff[k]);
            Due.is("20 the least", x.tastes(1), letOff[k] == 0 ? -5 : 0);
            x.see(-1, 0, true, 0);
            x.see(0, 4, false, 0);
            Due.is("20 not let off, fine is " + fines[k], x.tastes(0), 61 - letOff[k]);
            Due.is("20 the least", x.tastes(1), letOff[k] == 61 ? -5 : Math.max(0, fines[k] + 1));
            Due.is("10 taste stays", x.told(2), 8);
        }
    }

    private static void tastesOfSeveral() {
        ExemptBeauty x = town(3, 7);
        x.see(0, 0, false, 0);
        x.see(1, 0, true, 20);
        Due.is("20 4 to 7", x.tastes(0), 4);
        Due.is("20 4 to 7", x.tastes(1), 4);
        x.see(1, 5, true, 0);
        x.see(0, 5, false, 0);
        Due.is("20 alike", x.tastes(0), 4);
        x.grace(1, 5, 4);
        Due.is("20 4 alone", x.tastes(0), 1);
        Due.is("20 4 alone", x.tastes(1), 4);
        x.grace(1, 5, 3);
        Due.is("20 none", x.tastes(0), 0);
        Due.is("20 none", x.tastes(1), -5);
    }

    private static void gracesAtEnds() {
        for (int taste = 0; taste <= 11; taste++) {
            ExemptBeauty x = town(5);
            Due.office(x, "taste " + taste);
            Due.is("21 no looks", x.graces(0, 3, 0), 10);
            Due.is("21 no looks", x.graces(0, 3, 1), 0);
            x.see(0, 3, true, 0);
            Due.is("21 let off by taste " + taste, x.graces(0, 3, 0), Math.max(0, 10 - taste));
            Due.is("21 the least", x.graces(0, 3, 1), taste > 9 ? -5 : taste);
            x.see(-1, 0, true, 0);
            x.see(0, 3, false, 0);
            Due.is("21 not let off by taste " + taste, x.graces(0, 3, 0), Math.min(10, taste));
            Due.is("21 the least", x.graces(0, 3, 1), taste == 0 ? -5 : 0);
            Due.is("21 another part", x.graces(0, 2, 0), taste > 5 ? 10 : 0);
            Due.is("21 another part", x.graces(0, 2, 1), taste > 5 ? 0 : -5);
            Due.is("21 changed nothing", x.of(0, 13), 5);
            Due.is("21 changed nothing", x.of(0, 12), 5);
        }
    }

    private static void gracesOfYears() {
        ExemptBeauty x = new ExemptBeauty();
        x.person(0, 2, 39);
        x.hour(DARK);
        x.see(0, 2, true, 0);
        x.see(0, 2, false, 1);
        Due.is("21 8 and 9 now, 0 at 40", x.graces(0, 2, 0), 2);
        Due.is("21 8 and 9 now, 0 at 40", x.graces(0, 2, 1), 8);
        x.see(0, 2, true, 20);
        Due.is("21 none", x.graces(0, 2, 0), 0);
        Due.is("21 none", x.graces(0, 2, 1), -5);
        int[] outside = {-1, 6, MIN, MAX};
        for (int part : outside) {
            Due.is("21 part " + part, x.graces(0, part, 0), NONE);
        }
        Due.is("21 person", x.graces(1, 0, 0), NONE);
        Due.is("21 person", x.graces(-1, 0, 0), NONE);
    }

    private static void canAtEnds() {
        for (int least = 0; least <= 9; least++) {
            ExemptBeauty x = town(9 - least);
            Due.office(x, "like 50 v=" + least);
            Due.is("22 no looks", x.can(0, 0), 10);
            Due.is("22 no looks", x.can(0, 1), 0);
            x.grace(0, 4, 0);
            x.see(0, 4, true, 0);
            Due.is("22 one alone", x.can(0, 0), 1);
            Due.is("22 the least", x.can(0, 1), least);
            x.see(-1, 0, true, 0);
            x.see(0, 4, false, 0);
            Due.is("22 all but one", x.can(0, 0), 9);
            Due.is("22 the least", x.can(0, 1), least == 0 ? 1 : 0);
            x.see(0, 4, true, 0);
            Due.is("22 none", x.can(0, 0), 0);
            Due.is("22 none", x.can(0, 1), -5);
            Due.is("22 changed nothing", x.of(0, 1), 9 - least);
        }
    }

    /** v is GRACE at first alone: what it might be now leaves GRACE as it is. */
    private static void canKeepsGrace() {
        ExemptBeauty x = town(9);
        x.see(0, 0, true, 0);
        Due.is("22 grace stays", x.can(0, 0), 10);
        x.grace(0, 0, 0);
        Due.is("22 grace stays", x.can(0, 0), 0);
        for (int part = 0; part < 6; part++) {
            ExemptBeauty y = new ExemptBeauty();
            y.person(0, 9, 39);
            y.see(0, part, false, 1);
            Due.is("22 v by 6 is " + part, y.can(0, 0), part < 4 ? 2 : 1);
            Due.is("22 the least", y.can(0, 1), part);
        }
        Due.is("22 person", x.can(1, 0), NONE);
        Due.is("22 person", x.can(-1, 0), NONE);
    }

    private static void choicesOutside() {
        ExemptBeauty x = town(5);
        int[] outside = {-1, 2, 3, MIN, MAX};
        for (int what : outside) {
            Due.is("20 what " + what, x.tastes(what), NONE);
            Due.is("21 what " + what, x.graces(0, 0, what), NONE);
            Due.is("22 what " + what, x.can(0, what), NONE);
            Due.is("26 what " + what, x.ends(what), NONE);
            Due.is("23 side " + what, x.odds(0, 0, what), NO);
            Due.is("24 side " + what, x.mean(0, what), NO);
        }
        for (int far : FAR) {
            Due.is("21 person " + far, x.graces(far, 0, 0), NONE);
            Due.is("22 person " + far, x.can(far, 0), NONE);
        }
    }

    // ---- odds, means

    private static void oddsInTwentyFour() {
        int[] above = {0, 1, 1, 1, 1, 5, 1, 7, 1, 3, 5, 11, 1, 13, 7, 5, 2, 17, 3, 19, 5, 7, 11, 23, 1};
        int[] below = {1, 24, 12, 8, 6, 24, 4, 24, 3, 8, 12, 24, 2, 24, 12, 8, 3, 24, 4, 24, 6, 8, 12, 24, 1};
        for (int many = 0; many <= 24; many++) {
            ExemptBeauty x = town(0);
            Due.office(x, "like 60 h<" + many);
            for (int part = 0; part < 6; part++) {
                Due.is("23 above of " + many, x.odds(0, part, 0), above[many]);
                Due.is("23 below of " + many, x.odds(0, part, 1), below[many]);
            }
            Due.is("10 the hour stays", x.told(1), DARK);
        }
        ExemptBeauty x = town(0);
        Due.office(x, "like 60 h=23;light 8");
        Due.is("23 the last hour", x.odds(0, 0, 1), 24);
        x.leave(0, true);
        Due.is("23 who left is let off as before", x.odds(0, 0, 1), 24);
    }

    private static void oddsOutside() {
        ExemptBeauty x = town(0);
        int[] parts = {-1, 6, 7, MIN, MAX};
        for (int part : parts) {
            Due.is("23 part " + part, x.odds(0, part, 0), NO);
            Due.is("23 part " + part, x.odds(0, part, 1), NO);
        }
        int[] people = {-1, 1, MIN, MAX};
        for (int p : people) {
            Due.is("23 person " + p, x.odds(p, 0, 0), NO);
            Due.is("23 person " + p, x.odds(p, 0, 1), NO);
        }
    }

    private static void meanInLowestTerms() {
        ExemptBeauty x = town(0, 9, 9, 9, 9, 9);
        Due.office(x, "rate 1");
        int[] above = {1, 5, 2, 1, 1, 1, 0};
        int[] below = {1, 6, 3, 2, 3, 6, 1};
        for (int part = 0; part <= 6; part++) {
            Due.is("24 above, " + part + " let off", x.mean(DARK, 0), above[part]);
            Due.is("24 below, " + part + " let off", x.mean(DARK, 1), below[part]);
            if (part < 6) {
                x.grace(0, part, 9);
            }
        }
        x.grace(0, 3, 0);
        x.leave(0, true);
        Due.is("24 who left pays nothing", x.mean(DARK, 0), 0);
        Due.is("24 nothing by six", x.mean(DARK, 1), 1);
        x.leave(0, false);
        x.leave(1, true);
        Due.is("24 who left is among them", x.mean(DARK, 1), 6);
        Due.office(x, "rate 99;taste 60");
        Due.is("24 five pay all", x.mean(0, 0), 495);
        x.leave(1, false);
        Due.is("24 the most", x.mean(0, 0), 594);
        Due.is("24 the most", x.mean(0, 1), 1);
    }

    private static void meanOutside() {
        ExemptBeauty x = town(6);
        for (int h = 0; h < 24; h++) {
            boolean isNear = h >= 15 && h <= 21;
            Due.is("24 at " + h, x.mean(h, 0), isNear ? 0 : 60);
            Due.is("24 at " + h, x.mean(h, 1), 1);
        }
        int[] outside = {-1, 24, MIN, MAX};
        for (int h : outside) {
            Due.is("24 hour " + h, x.mean(h, 0), NO);
            Due.is("24 hour " + h, x.mean(h, 1), NO);
        }
        Due.is("10 the hour stays", x.told(1), DARK);
    }

    // ---- plans

    private static void planTold() {
        for (int h = 0; h < 24; h++) {
            ExemptBeauty x = town(0);
            Due.is("25 hour " + h, x.plan(1, h), 1);
            Due.office(x, "like 60 h=" + h);
            Due.is("26 at that hour", x.ends(0), 0);
        }
        int[] any = {0, -1, 24, MIN, MAX};
        for (int n : any) {
            ExemptBeauty x = town(0);
            Due.is("25 a year, n does not matter", x.plan(0, n), 1);
            Due.is("25 an hour, n does not matter", x.plan(3, n), 2);
            Due.office(x, "like 60 h=5");
            Due.is("26 one hour on", x.ends(0), 0);
        }
    }

    private static void planRefused() {
        ExemptBeauty x = town(0);
        int[] whats = {-2, 4, 5, MIN, MAX};
        for (int what : whats) {
            Due.is("25 what " + what, x.plan(what, 0), NONE);
        }
        int[] people = {-1, 1, 2, MIN, MAX};
        for (int p : people) {
            Due.is("25 person " + p, x.plan(2, p), NONE);
        }
        int[] hours = {-1, 24, MIN, MAX};
        for (int h : hours) {
            Due.is("25 hour " + h, x.plan(1, h), BAD);
        }
        Due.is("35 nothing came", x.count(3), 0);
        Due.is("25 empty, and empty then", x.plan(-1, 0), 0);
        Due.is("26 nothing goes", x.ends(0), 60);
    }

    private static void planFull() {
        ExemptBeauty x = town(0);
        Due.office(x, "like 60 h=14");
        for (int k = 1; k <= 10; k++) {
            Due.is("25 row " + k, x.plan(3, 0), k);
            Due.is("35 rows", x.count(3), k);
            Due.is("26 at 14 behind ten", x.ends(0), k == 10 ? 0 : 60);
        }
        for (int what = 0; what <= 3; what++) {
            Due.is("25 an eleventh", x.plan(what, 0), FULL);
        }
        Due.is("25 what ahead of full", x.plan(4, 0), NONE);
        Due.is("25 person ahead of full", x.plan(2, 1), NONE);
        Due.is("25 hour ahead of full", x.plan(1, 24), BAD);
        Due.is("35 ten", x.count(3), 10);
        Due.is("26 no eleventh goes", x.ends(0), 0);
        int[] any = {0, -1, 24, MIN, MAX};
        for (int n : any) {
            Due.is("25 empty then, whatever the other is", x.plan(-1, n), 0);
            Due.is("35 empty", x.count(3), 0);
            Due.is("26 nothing goes", x.ends(0), 60);
            Due.is("25 one again", x.plan(1, 14), 1);
            Due.is("26 one goes", x.ends(0), 0);
        }
    }

    /** One of 38 with v 9 loses part 3 in the second year; one of 98 grows no older than 99. */
    private static void planGoes() {
        ExemptBeauty x = new ExemptBeauty();
        x.person(0, 9, 38);
        x.person(0, 9, 98);
        x.hour(DARK);
        int[] pays = {0, 10, 10, 10};
        for (int k = 0; k < 4; k++) {
            x.plan(0, 0);
            Due.is("26 pays behind " + (k + 1), x.ends(0), pays[k]);
            Due.is("26 parts behind " + (k + 1), x.ends(1), pays[k] == 0 ? 12 : 11);
        }
        Due.office(x, "taste 9;mind 1 a>9");
        Due.is("26 99 at most", x.ends(0), 10);
        Due.is("10 no year went", x.told(0), 0);
        Due.is("3 nobody grew older", x.of(0, 2), 38);
        Due.is("3 nothing is lost", x.of(0, 13), 9);
    }

    private static void planHours() {
        ExemptBeauty x = town(0);
        Due.office(x, "like 60 h=0;like 10 h=1&t=2");
        x.plan(1, 22);
        x.plan(3, 0);
        Due.is("26 at 23", x.ends(1), 0);
        x.plan(3, 0);
        Due.is("26 behind 23 comes 0", x.ends(1), 6);
        x.plan(3, 0);
        Due.is("26 at 1", x.ends(1), 1);
        x.plan(1, 23);
        x.plan(0, 0);
        Due.is("26 at 23, a year is no hour", x.ends(1), 0);
        x.plan(3, 0);
        Due.is("26 at 0 again", x.ends(1), 6);
        Due.is("10 the hour stays", x.told(1), DARK);
        x.plan(-1, 0);
        x.hour(23);
        x.plan(3, 0);
        Due.is("26 from 23 on", x.ends(1), 6);
    }

    private static void planLeaves() {
        ExemptBeauty x = town(0, 9, 0, 0, 0, 9);
        Due.is("26 before", x.ends(0), 240);
        Due.is("26 before", x.ends(1), 12);
        x.plan(2, 0);
        Due.is("26 one less", x.ends(0), 180);
        Due.is("26 nothing of it was let off", x.ends(1), 12);
        x.plan(2, 5);
        Due.is("26 it paid nothing", x.ends(0), 180);
        Due.is("26 its parts do not count", x.ends(1), 6);
        x.plan(2, 5);
        Due.is("26 twice is once", x.ends(1), 6);
        Due.is("3 nobody left", x.of(5, 3), 0);
        x.leave(1, true);
        Due.is("26 who left before", x.ends(1), 0);
        Due.is("26 who left before", x.ends(0), 180);
        for (int p = 1; p < 5; p++) {
            x.plan(2, p);
        }
        Due.is("26 all left", x.ends(0), 0);
        Due.is("26 all left", x.ends(1), 0);
        ExemptBeauty y = town(0, 0);
        Due.office(y, "like 9 h=" + DARK + "&a=0");
        y.plan(2, 1);
        Due.is("26 one leaves within the hour and the year", y.ends(1), 6);
        Due.is("26 one leaves within the hour and the year", y.ends(0), 0);
    }

    // ---- books

    private static void bookTold() {
        ExemptBeauty x = town(0, 0);
        Due.is("27 empty, and empty then", x.book(-1, 0), 0);
        int[] bad = {-1, 1000, 1001, MIN, MAX};
        for (int pays : bad) {
            Due.is("27 pays " + pays, x.book(1, pays), BAD);
            Due.is("27 person ahead of pays", x.book(2, pays), NONE);
            Due.is("27 person ahead of pays", x.book(-2, pays), NONE);
        }
        int[] people = {-2, 2, 6, MIN, MAX};
        for (int p : people) {
            Due.is("27 person " + p, x.book(p, 0), NONE);
        }
        Due.is("35 nothing came", x.count(4), 0);
        Due.is("28 nothing to look at", x.looked(), -5);
        Due.is("27 the least", x.book(1, 0), 1);
        Due.is("27 the greatest", x.book(0, 999), 2);
        Due.office(x, "rate 99");
        Due.is("28 0 is not 594", x.looked(), 0);
    }

    private static void bookFull() {
        ExemptBeauty x = town(0, 9);
        for (int k = 1; k <= 8; k++) {
            Due.is("27 row " + k, x.book(k % 2, k % 2 == 0 ? 60 : 0), k);
            Due.is("35 rows", x.count(4), k);
        }
        Due.is("27 a ninth", x.book(0, 7), FULL);
        Due.is("27 person ahead of full", x.book(2, 7), NONE);
        Due.is("27 pays ahead of full", x.book(0, 1000), BAD);
        Due.is("35 eight", x.count(4), 8);
        Due.is("28 no ninth", x.looked(), -5);
        int[] any = {0, -1, 1000, MIN, MAX};
        for (int pays : any) {
            Due.is("27 empty then, whatever the other is", x.book(-1, pays), 0);
            Due.is("35 empty", x.count(4), 0);
            Due.is("28 empty", x.looked(), -5);
            Due.is("27 one again", x.book(1, 1), 1);
            Due.is("28 one again", x.looked(), 0);
        }
    }

    private static void lookedAt() {
        for (int wrong = 0; wrong < 8; wrong++) {
            ExemptBeauty x = town(0, 9);
            for (int k = 0; k < 8; k++) {
                x.book(0, k >= wrong ? 61 - k % 3 * 2 : 60);
            }
            Due.is("28 the first otherwise", x.looked(), wrong);
        }
        ExemptBeauty x = town(0, 9);
        x.book(0, 60);
        x.book(1, 0);
        Due.is("28 all so", x.looked(), -5);
        x.leave(0, true);
        Due.is("28 who left pays nothing", x.looked(), 0);
        x.leave(0, false);
        x.grace(1, 5, 0);
        Due.is("28 the second", x.looked(), 1);
        x.grace(0, 0, 9);
        Due.is("28 both, the first", x.looked(), 0);
    }
}
