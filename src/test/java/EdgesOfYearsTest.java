/**
 * Section 2 with promises 11 to 18 (years, hours, lines, pairs, tastes raised): the bounds told, nobody or all there,
 * of several the first, and what goes round.
 */
public final class EdgesOfYearsTest {
    private static final int NONE = -1, BAD = -2, STATE = -3;
    private static final int MIN = Integer.MIN_VALUE, MAX = Integer.MAX_VALUE;
    private static final int[] FAR = {MIN, MIN + 1, MIN + 10, -1000, 10001, MAX - 20, MAX - 1, MAX};

    public static void main(String[] args) {
        yearsThatGo();
        lastYear();
        onYears();
        onWhat();
        onBeyondTheLastYear();
        seenAtEachHour();
        bestHour();
        bestOfSeveral();
        risesInYears();
        risesAtEnds();
        risesBehindFalls();
        clausesInYears();
        whenOutside();
        lineOfFew();
        lineRound();
        lineOfSeveral();
        lineOutside();
        lineLeavesOut();
        joint();
        jointOfTwo();
        pairsOfFew();
        oneAlone();
        pairsOfSix();
        pairsOfSeveral();
        pairsOutside();
        raisesOfTastes();
        raisesOfMany();
        raisesOutside();
        Due.end();
    }

    private static ExemptBeauty town(int... vs) {
        ExemptBeauty x = new ExemptBeauty();
        for (int v : vs) {
            x.person(0, v, 0);
        }
        return x;
    }

    // ---- pass

    private static void yearsThatGo() {
        for (int n = 0; n <= 60; n++) {
            ExemptBeauty x = town(0);
            Due.is("11 pass " + n, x.pass(n), n);
            Due.is("11 year", x.told(0), n);
            Due.is("11 age", x.of(0, 2), n);
            Due.is("11 and once more", x.pass(n), n + n);
        }
        ExemptBeauty x = town(0);
        Due.is("11 -1", x.pass(-1), BAD);
        Due.is("11 61", x.pass(61), BAD);
        for (int n : FAR) {
            Due.is("11 pass " + n, x.pass(n), BAD);
        }
        Due.is("11 no year went", x.told(0), 0);
        Due.is("11 no year went", x.of(0, 2), 0);
        Due.is("11 nobody there", new ExemptBeauty().pass(60), 60);
    }

    private static ExemptBeauty inYear(int year) {
        ExemptBeauty x = new ExemptBeauty();
        for (int y = 0; y < year; y += 60) {
            x.pass(Math.min(60, year - y));
        }
        return x;
    }

    private static void lastYear() {
        for (int missing = 0; missing <= 3; missing++) {
            ExemptBeauty x = inYear(9999 - missing);
            x.person(0, 0, 7);
            Due.is("10 year", x.told(0), 9999 - missing);
            Due.is("11 above 9999", x.pass(missing + 1), STATE);
            Due.is("11 far above 9999", x.pass(60), STATE);
            Due.is("11 bad ahead of above", x.pass(61), BAD);
            Due.is("11 stays", x.told(0), 9999 - missing);
            Due.is("11 nobody grew older", x.of(0, 2), 7);
            Due.is("11 up to 9999", x.pass(missing), 9999);
            Due.is("11 0 more", x.pass(0), 9999);
            Due.is("11 1 more", x.pass(1), STATE);
        }
    }

    // ---- on

    /** One of 39 with v 8 loses part 2 behind a year; one who fades, of 15 and v 7, pays from 20 on. */
    private static void onYears() {
        ExemptBeauty x = new ExemptBeauty();
        x.person(0, 8, 39);
        x.person(1, 7, 15);
        int[] years = {0, 1, 4, 5, 24, 25, 60};
        int[] first = {0, 10, 10, 10, 10, 10, 10};
        int[] second = {0, 0, 0, 60, 60, 60, 60};
        for (int k = 0; k < years.length; k++) {
            Due.is("12 pays of 0", x.on(years[k], 10), first[k]);
            Due.is("12 pays of 1", x.on(years[k], 11), second[k]);
            Due.is("12 pays of all", x.on(years[k], 0), first[k] + second[k]);
            Due.is("12 let off of 0", x.on(years[k], 20), first[k] == 0 ? 63 : 63 - 4);
            Due.is("12 let off of 1", x.on(years[k], 21), second[k] == 0 ? 63 : 0);
        }
        x.leave(0, true);
        Due.is("12 who left pays nothing", x.on(1, 10), 0);
        Due.is("12 who left, all", x.on(5, 0), 60);
        Due.is("12 who left is let off as before", x.on(1, 20), 63 - 4);
        Due.is("12 -1", x.on(-1, 0), BAD);
        Due.is("12 61", x.on(61, 0), BAD);
        Due.is("12 -1", x.on(-1, 11), BAD);
        Due.is("12 61", x.on(61, 21), BAD);
        for (int n : FAR) {
            Due.is("12 far", x.on(n, 0), BAD);
        }
        Due.is("12 no year went", x.told(0), 0);
        Due.is("12 nobody grew older", x.of(1, 2), 15);
    }

    private static void onWhat() {
        for (int many = 0; many <= 6; many++) {
            ExemptBeauty x = town(new int[many]);
            Due.is("12 all", x.on(0, 0), 60 * many);
            for (int p = 0; p < 7; p++) {
                Due.is("12 pays of " + p + " of " + many, x.on(0, 10 + p), p < many ? 60 : NONE);
                Due.is("12 let off of " + p + " of " + many, x.on(0, 20 + p), p < many ? 0 : NONE);
            }
            int[] none = {-1, 1, 9, 16, 19, 26, 30, MIN, MIN + 10, MIN + 20, MAX};
            for (int what : none) {
                Due.is("12 what " + what, x.on(0, what), NONE);
                Due.is("12 what ahead of n", x.on(61, what), NONE);
                Due.is("12 what ahead of n", x.on(-1, what), NONE);
            }
        }
    }

    private static void onBeyondTheLastYear() {
        ExemptBeauty x = inYear(9999);
        x.person(0, 7, 39);
        Due.is("11 no year more", x.pass(1), STATE);
        Due.is("12 on beyond", x.on(60, 10), 10);
        Due.is("12 on beyond", x.on(1, 0), 10);
        Due.is("12 on beyond", x.on(1, 20), 61);
        Due.is("14 rises beyond", x.when(0, 1), 1);
        x.see(0, 1, false, 20);
        Due.is("20 looks beyond", x.tastes(1), 2);
        Due.is("21 looks beyond", x.graces(0, 1, 0), 10);
        Due.is("22 looks beyond", x.can(0, 0), 2);
        x.plan(0, 0);
        Due.is("26 plans beyond", x.ends(0), 10);
        Due.is("26 plans beyond", x.ends(1), 5);
        Due.is("10 year", x.told(0), 9999);
    }

    // ---- hours

    private static void seenAtEachHour() {
        ExemptBeauty x = town(6);
        Due.office(x, "light 23;rate 7");
        for (int h = 0; h < 24; h++) {
            boolean isNear = h >= 20 || h <= 2;
            Due.is("13 at " + h, x.seenAt(0, h), isNear ? 0 : 42);
        }
        Due.is("13 -1", x.seenAt(0, -1), BAD);
        Due.is("13 24", x.seenAt(0, 24), BAD);
        Due.is("13 person", x.seenAt(1, 0), NONE);
        Due.is("13 person", x.seenAt(-1, 0), NONE);
        Due.is("13 person ahead of hour", x.seenAt(1, 24), NONE);
        for (int far : FAR) {
            Due.is("13 far", x.seenAt(0, far), BAD);
            Due.is("13 far", x.seenAt(far, 0), NONE);
        }
        Due.is("13 the hour stays", x.told(1), 12);
        x.leave(0, true);
        Due.is("13 who left", x.seenAt(0, 12), 0);
        x.leave(0, false);
        x.hour(20);
        Due.is("13 no matter at which hour it is", x.seenAt(0, 12), 42);
    }

    private static void bestHour() {
        for (int best = 0; best < 24; best++) {
            ExemptBeauty x = town(0);
            x.hour(23 - best);
            Due.office(x, "like 9 h=" + best + "&t=3");
            Due.is("14 best at " + best, x.when(0, 0), best);
        }
    }

    private static void bestOfSeveral() {
        for (int first = 0; first < 23; first++) {
            ExemptBeauty x = town(0);
            Due.office(x, "like 9 h>" + first + "&t<2");
            Due.is("14 the first behind " + first, x.when(0, 0), first + 1);
        }
        ExemptBeauty x = town(9);
        Due.office(x, "mind 9 h<23");
        Due.is("14 the last hour", x.when(0, 0), 23);
        Due.office(x, "mind 9 h=0");
        Due.is("14 not the first hour", x.when(0, 0), 1);
        Due.office(x, "mind 9 h<24");
        Due.is("14 there is no hour 24", x.when(0, 0), 0);
        Due.office(x, "taste 60");
        Due.is("14 all alike", x.when(0, 0), 0);
        Due.office(x, "like 60 t=1&h=20;like 60 t<2&h=22;taste 60");
        Due.is("14 two parts are more than one", x.when(0, 0), 22);
        x.leave(0, true);
        Due.is("14 who left", x.when(0, 0), 0);
    }

    private static void risesInYears() {
        // who fades pays more in the year by which it is 20, 40, 60, 80 old
        for (int age = 0; age < 20; age++) {
            ExemptBeauty x = new ExemptBeauty();
            x.person(1, 7, age);
            Due.is("14 rises, of " + age, x.when(0, 1), 20 - age);
        }
        int[] ages = {39, 38, 20, 40, 79, 99};
        int[] due = {1, 2, 20, -5, -5, -5};
        for (int k = 0; k < ages.length; k++) {
            ExemptBeauty x = new ExemptBeauty();
            x.person(0, 7, ages[k]);
            Due.is("14 rises, of " + ages[k], x.when(0, 1), due[k]);
        }
    }

    /** Who fades is 3 less from 60 on: 60 years from 0, 61 would be too many. */
    private static void risesAtEnds() {
        ExemptBeauty x = new ExemptBeauty();
        x.person(1, 9, 0);
        x.grace(0, 3, 0);
        Due.is("14 rises behind 60", x.when(0, 1), 60);
        ExemptBeauty y = new ExemptBeauty();
        y.person(4, 9, 19);
        y.grace(0, 3, 0);
        Due.office(y, "taste 6");
        Due.is("14 a statue of 19 behind 61: none", y.when(0, 1), -5);
        y.pass(1);
        Due.is("14 a statue of 20 behind 60", y.when(0, 1), 60);
        y.pass(59);
        Due.is("14 behind 1", y.when(0, 1), 1);
        y.pass(1);
        Due.is("14 it rose already", y.when(0, 1), -5);
        y.leave(0, true);
        Due.is("14 who left", y.when(0, 1), -5);
        ExemptBeauty z = new ExemptBeauty();
        z.person(5, 9, 19);
        Due.office(z, "rate 0;taste 20");
        Due.is("14 nothing is more than nothing", z.when(0, 1), -5);
        Due.office(z, "mind 9 a<2;taste 9");
        Due.is("14 it pays less, not more", z.when(0, 1), 21);
    }

    /** One who grew dearer, cheaper and dearer again: more than a YEAR ahead, not more than now. */
    private static void risesBehindFalls() {
        ExemptBeauty x = town(0);
        Due.office(x, "like 9 a=1|a=3;like 9 a=2&t<2;taste 9;rate 1");
        int[] pays = {6, 0, 4, 0, 6};
        for (int a = 0; a < 5; a++) {
            Due.is("12 pays behind " + 10 * a, x.on(10 * a, 10), pays[a]);
        }
        Due.is("14 rises at 20, to less than now", x.when(0, 1), 20);
        x.pass(20);
        Due.is("14 rises at 40", x.when(0, 1), 20);
        x.pass(20);
        Due.is("14 rises no more", x.when(0, 1), -5);
    }

    /** Behind 5 years the ages are 10, 20, 30, 40: a test tells of each person what it then is. */
    private static void clausesInYears() {
        String[] tests = {"p=2", "p>0", "t=5", "t=4", "k=3", "k<2", "v=2", "v>2", "a=4", "a=1", "a<3", "h=12", "h=11"};
        String[] so = {"2", "123", "0123", "", "3", "01", "1", "23", "3", "0", "01", "0123", ""};
        for (int k = 0; k < tests.length; k++) {
            ExemptBeauty x = new ExemptBeauty();
            for (int p = 0; p < 4; p++) {
                x.person(p, p + 1, 5 + 10 * p);
            }
            Due.office(x, "taste 50;rate 60;like 60 t=5&" + tests[k]);
            for (int year = 0; year < 5; year++) {
                x.plan(0, 0);
            }
            for (int p = 0; p < 4; p++) {
                boolean is = so[k].indexOf('0' + p) >= 0;
                Due.is("12 pays of " + p + " by " + tests[k], x.on(5, 10 + p), is ? 300 : 360);
                Due.is("12 let off of " + p + " by " + tests[k], x.on(5, 20 + p), is ? 32 : 0);
                x.see(-1, 0, true, 0);
                x.see(p, 5, false, 5);
                Due.is("20 tastes that leave " + p + " to pay by " + tests[k], x.tastes(0) < 20 ? 1 : 0, is ? 1 : 0);
                Due.is("21 graces that leave " + p + " to pay by " + tests[k], x.graces(p, 5, 0), is ? 0 : 10);
            }
            Due.is("12 pays of all by " + tests[k], x.on(5, 0), 4 * 360 - 60 * so[k].length());
            Due.is("26 pays of all by " + tests[k], x.ends(0), 4 * 360 - 60 * so[k].length());
            Due.is("26 parts of all by " + tests[k], x.ends(1), so[k].length());
        }
    }

    private static void whenOutside() {
        ExemptBeauty x = town(0);
        int[] outside = {-1, 2, 3, 10, MIN, MAX};
        for (int what : outside) {
            Due.is("14 what " + what, x.when(0, what), NONE);
            Due.is("14 person " + what, x.when(what, 0), NONE);
            Due.is("14 person " + what, x.when(what, 1), NONE);
        }
        Due.is("14 person 1", x.when(1, 0), NONE);
    }

    // ---- lines

    private static void line(String what, ExemptBeauty x, int much, int... order) {
        Due.is(what + ", how much", x.line(-1), much);
        for (int k = 0; k < 6; k++) {
            Due.is(what + ", the " + k + "-th", x.line(k), k < order.length ? order[k] : -5);
        }
    }

    private static void lineOfFew() {
        line("15 nobody", new ExemptBeauty(), 0);
        line("15 one", town(0), 60, 0);
        line("15 one, let off", town(9), 0, 0);
        line("15 two, alike", town(0, 0), 120, 0, 1);
        line("15 six, alike", town(0, 0, 0, 0, 0, 0), 360, 0, 1, 2, 3, 4, 5);
        line("15 six, let off", town(9, 9, 9, 9, 9, 9), 0, 0, 1, 2, 3, 4, 5);
        ExemptBeauty x = town(6, 0);
        x.hour(21);
        line("15 the first at HOUR itself", x, 60, 0, 1);
        x.hour(14);
        line("15 the second an hour later", x, 60, 1, 0);
    }

    /** Each is let off at one hour alone, told by its number. */
    private static void lineRound() {
        ExemptBeauty x = town(0, 0, 0, 0, 0, 0);
        Due.office(x, "like 9 p=0&h=1|p=1&h=0|p=2&h=23|p=3&h=22|p=4&h=21|p=5&h=20");
        x.hour(20);
        line("15 behind 23 comes 0", x, 0, 5, 4, 3, 2, 1, 0);
        x.hour(23);
        line("15 from 23 on", x, 180, 2, 1, 0, 3, 4, 5);
        x.hour(1);
        line("15 from 1 on", x, 300, 0, 1, 2, 3, 4, 5);
        x.hour(0);
        line("15 from 0 on", x, 240, 1, 0, 2, 3, 4, 5);
        x.hour(15);
        line("15 the sixth at 20", x, 300, 0, 1, 2, 3, 4, 5);
        x.hour(16);
        line("15 the sixth at 21, the fifth at 20", x, 240, 0, 1, 2, 3, 5, 4);
    }

    private static void lineOfSeveral() {
        ExemptBeauty x = town(0, 0, 0);
        Due.office(x, "like 9 p=2&h=13|p=0&h=13|p=1&h=12");
        line("15 of two orders the first", x, 60, 1, 0, 2);
        ExemptBeauty y = town(0, 0, 0);
        Due.office(y, "like 9 p=2&h=12|p=0&h=13|p=1&h=13");
        line("15 of two orders the first", y, 60, 2, 0, 1);
        ExemptBeauty z = town(0, 0, 0, 0);
        Due.office(z, "like 9 p=3&h=14");
        line("15 of six orders the first", z, 180, 0, 1, 3, 2);
        Due.office(z, "like 9 p=3&h=14&t=5;rate 0");
        line("15 nothing to pay", z, 0, 0, 1, 2, 3);
    }

    private static void lineOutside() {
        ExemptBeauty x = town(0, 0);
        Due.is("15 -2", x.line(-2), NONE);
        Due.is("15 6", x.line(6), NONE);
        for (int far : FAR) {
            Due.is("15 far", x.line(far), NONE);
        }
    }

    private static void lineLeavesOut() {
        ExemptBeauty x = town(0, 0, 0, 0, 0, 0);
        x.leave(0, true);
        x.leave(3, true);
        line("15 four are there", x, 240, 1, 2, 4, 5);
        Due.office(x, "like 9 p=5&h=12|p=0&h=13");
        line("15 who left stands nowhere", x, 180, 5, 1, 2, 4);
        int[] leaving = {1, 2, 4};
        for (int p : leaving) {
            x.leave(p, true);
        }
        line("15 one is there", x, 0, 5);
        x.leave(5, true);
        line("15 all left", x, 0);
    }

    // ---- two, pairs

    private static void joint() {
        ExemptBeauty x = town(7, 7);
        x.hour(4);
        for (int part = 0; part < 6; part++) {
            Due.is("16 neither", x.jointly(0, 1), 60 - 10 * part);
            x.grace(part % 2, part, 8);
        }
        Due.is("16 of each part one", x.jointly(0, 1), 0);
        x.grace(1, 0, 9);
        x.grace(0, 1, 8);
        Due.is("16 both, once", x.jointly(1, 0), 0);
        x.grace(0, 0, 7);
        x.grace(1, 0, 7);
        Due.is("16 neither has part 0", x.jointly(1, 0), 10);
        Due.office(x, "taste 0;mind 8 t<6");
        Due.is("16 part 1 is 0 of both, part 3, 5 of one, 2 and 4 of the other", x.jointly(0, 1), 10);
        Due.office(x, "rate 99;taste 99");
        Due.is("16 the most", x.jointly(0, 1), 594);
    }

    private static void jointOfTwo() {
        ExemptBeauty x = town(0, 0, 0, 0, 0, 0);
        for (int p = 0; p < 6; p++) {
            Due.is("16 one is both", x.jointly(p, p), BAD);
            Due.is("16 nobody else", x.jointly(p, 6), NONE);
            Due.is("16 nobody else", x.jointly(-1, p), NONE);
            Due.is("16 two", x.jointly(p, 5 - p), 60);
        }
        Due.is("16 nobody twice", x.jointly(6, 6), NONE);
        Due.is("16 nobody twice", x.jointly(-1, -1), NONE);
        for (int far : FAR) {
            Due.is("16 far", x.jointly(0, far), NONE);
            Due.is("16 far", x.jointly(far, 0), NONE);
        }
    }

    private static void pairs(String what, ExemptBeauty x, int much, int... partners) {
        Due.is(what + ", how much", x.pairs(0), much);
        for (int p = 0; p < 6; p++) {
            Due.is(what + ", of " + p, x.pairs(10 + p), p < partners.length ? partners[p] : NONE);
        }
    }

    private static void pairsOfFew() {
        pairs("17 nobody", new ExemptBeauty(), 0);
        pairs("17 one", town(0), 60, -5);
        pairs("17 one, let off", town(9), 0, -5);
        pairs("17 two", town(0, 0), 60, 1, 0);
        pairs("17 two, let off", town(9, 9), 0, 1, 0);
        pairs("17 three", town(0, 0, 0), 120, 1, 0, -5);
        ExemptBeauty x = town(0, 0, 9);
        pairs("17 three, one of them fine", x, 60, 1, 0, -5);
        x.leave(0, true);
        pairs("17 two of three", x, 0, -5, 2, 1);
        x.leave(2, true);
        pairs("17 one of three", x, 60, -5, -5, -5);
        x.leave(1, true);
        pairs("17 all left", x, 0, -5, -5, -5);
        x.leave(0, false);
        x.leave(2, false);
        pairs("17 first and last", x, 0, 2, -5, 0);
    }

    /** One who pays nothing alone is best left alone if two others have what the other has not. */
    private static void oneAlone() {
        int[][] places = {{0, 1, 2}, {1, 0, 2}, {2, 0, 1}};
        for (int[] place : places) {
            ExemptBeauty x = town(0, 0, 0);
            Due.office(x, "like 9 p=" + place[0] + "|p=" + place[1] + "&t<3|p=" + place[2] + "&t>2");
            int[] partners = {-5, -5, -5};
            partners[place[1]] = place[2];
            partners[place[2]] = place[1];
            pairs("17 alone: " + place[0], x, 0, partners);
        }
        ExemptBeauty y = town(9, 0, 0, 0, 0);
        Due.office(y, "like 9 p=1&t<3|p=4&t>2|p=2&t=0|p=3&t>0");
        pairs("17 alone the first of five", y, 0, -5, 4, 3, 2, 1);
    }

    private static void pairsOfSix() {
        pairs("17 six", town(0, 0, 0, 0, 0, 0), 180, 1, 0, 3, 2, 5, 4);
        ExemptBeauty x = town(0, 0, 0, 0, 0, 0);
        int[][] fine = {{0, 1, 2}, {3}, {4, 5}, {3, 4, 5}, {0, 1, 2, 4, 5}, {0, 1, 2, 3}};
        for (int p = 0; p < 6; p++) {
            for (int part : fine[p]) {
                x.grace(p, part, 9);
            }
        }
        pairs("17 each has what another has not", x, 0, 3, 4, 5, 0, 1, 2);
        x.leave(5, true);
        pairs("17 five: 0 with 2, or with 3, is the same", x, 40, 2, 4, 0, -5, 1, -5);
        x.leave(2, true);
        pairs("17 four", x, 0, 3, 4, -5, 0, 1, -5);
    }

    private static void pairsOfSeveral() {
        pairs("17 by nothing to pay, the first row", town(9, 9, 9, 9, 9, 9), 0, 1, 0, 3, 2, 5, 4);
        pairs("17 nobody last", town(9, 9, 9), 0, 1, 0, -5);
        ExemptBeauty x = town(0, 0, 0, 0);
        Due.office(x, "like 9 p=0&t<3|p=3&t>2|p=2&t>2");
        pairs("17 the lesser of two partners", x, 30, 2, 3, 0, 1);
        ExemptBeauty y = town(0, 0, 0, 0, 0);
        Due.office(y, "like 9 p=4");
        pairs("17 of five the last is let off", y, 120, 1, 0, 3, 2, -5);
        Due.office(y, "rate 0");
        pairs("17 rate 0", y, 0, 1, 0, 3, 2, -5);
    }

    private static void pairsOutside() {
        ExemptBeauty x = town(0, 0);
        int[] none = {-1, 1, 2, 9, 12, 15, 16, 20, MIN, MIN + 10, MAX};
        for (int what : none) {
            Due.is("17 what " + what, x.pairs(what), NONE);
        }
    }

    // ---- tastes

    private static void raisesOfTastes() {
        ExemptBeauty x = town(0);
        x.hour(4);
        Due.is("18 0 is paid by any", x.raises(0), 0);
        Due.is("18 1", x.raises(1), 1);
        Due.is("18 all", x.raises(60), 1);
        Due.is("18 one beyond all", x.raises(61), -5);
        for (int fine = 51; fine <= 61; fine++) {
            ExemptBeauty y = town(0);
            y.hour(4);
            Due.office(y, "like " + fine + " t<6");
            Due.is("18 fine is " + fine, y.raises(1), fine < 60 ? fine + 1 : -5);
        }
        Due.office(x, "mind 1 t=2");
        Due.is("18 below 0 is below taste 0", x.raises(10), 0);
        Due.is("18 one beyond that", x.raises(11), 1);
        Due.office(x, "like 7 t<3;like 20 t=3;rate 99");
        int[] asked = {198, 199, 495, 496, 594, 595};
        int[] due = {1, 8, 8, 21, 21, -5};
        for (int k = 0; k < asked.length; k++) {
            Due.is("18 of rate 99, " + asked[k], x.raises(asked[k]), due[k]);
        }
        x.leave(0, true);
        Due.is("18 who left pays nothing", x.raises(1), -5);
        Due.is("18 who left pays nothing", x.raises(0), 0);
    }

    /** Each part of each person has a FINE of its own, from -2 on; one who left pays nothing. */
    private static void raisesOfMany() {
        ExemptBeauty x = town(0, 0, 0);
        x.hour(4);
        Due.office(x, "mind 2 p=0;like 16 p=1;like 40 p=2;rate 1");
        for (int part = 0; part < 6; part++) {
            x.grace(0, part, part);
            x.grace(1, part, 9 - part);
            x.grace(2, part, 2 * (part % 5));
        }
        // FINE of 0: -2 to 3; of 1: 20 to 25; of 2: 40, 40, 42, 44, 46, 48
        int[] due = {0, 0, 0, 1, 2, 3, 4, 21, 22, 23, 24, 25, 26, 41, 41, 43, 45, 47, 49, -5};
        for (int q = 0; q < due.length; q++) {
            Due.is("18 the least taste by which all pay " + q, x.raises(q), due[q]);
        }
        x.leave(1, true);
        int[] dueThen = {0, 0, 0, 1, 2, 3, 4, 41, 41, 43, 45, 47, 49, -5};
        for (int q = 0; q < dueThen.length; q++) {
            Due.is("18 without one who left, " + q, x.raises(q), dueThen[q]);
        }
    }

    private static void raisesOutside() {
        ExemptBeauty x = town(0, 0, 0, 0, 0, 0);
        Due.office(x, "rate 99");
        Due.is("18 the most", x.raises(3564), 2);
        Due.is("18 one beyond", x.raises(3565), -5);
        Due.is("18 the greatest number", x.raises(9999), -5);
        Due.is("18 10000", x.raises(10000), BAD);
        Due.is("18 -1", x.raises(-1), BAD);
        for (int far : FAR) {
            Due.is("18 far", x.raises(far), BAD);
        }
        Due.is("18 taste stays", x.told(2), 8);
    }
}
