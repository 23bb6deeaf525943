/** Promises 11 to 18: years, hours, pairs, tastes raised. */
public final class YearsPromisesTest {
    private static final int NONE = -1, BAD = -2, STATE = -3;
    private static final int MIN = Integer.MIN_VALUE, MAX = Integer.MAX_VALUE;

    public static void main(String[] args) {
        pass();
        on();
        onBeyondTheLastYear();
        seenAt();
        best();
        rises();
        line();
        lineGoesRound();
        jointly();
        pairs();
        pairsOfSeveral();
        raises();
        Due.end();
    }

    private static void pass() {
        ExemptBeauty x = new ExemptBeauty();
        x.person(0, 7, 39);
        x.person(4, 6, 98);
        x.person(1, 3, 40);
        x.leave(0, true);
        Due.is("11", x.pass(61), BAD);
        Due.is("11", x.pass(-1), BAD);
        Due.is("11", x.pass(0), 0);
        Due.is("11 nothing yet", x.of(0, 11), 7);
        Due.is("11", x.pass(1), 1);
        Due.is("11 age, though it left", x.of(0, 2), 40);
        Due.is("11 grace of v modulo 6", x.of(0, 11), 0);
        Due.is("11 grace of others", x.of(0, 10), 7);
        Due.is("11 was 40 before", x.of(2, 13), 3);
        Due.is("11", x.grace(0, 1, 5), 0);
        Due.is("11", x.pass(60), 61);
        Due.is("11 once alone", x.of(0, 11), 5);
        Due.is("11 age", x.of(0, 2), 99);
        Due.is("11 age", x.of(1, 2), 99);
        for (int k = 1; k <= 165; k++) {
            Due.is("11", x.pass(60), 61 + 60 * k);
        }
        Due.is("11 above", x.pass(39), STATE);
        Due.is("11", x.pass(38), 9999);
        Due.is("11 above", x.pass(1), STATE);
        Due.is("11 bad ahead", x.pass(61), BAD);
        Due.is("11", x.pass(0), 9999);
        Due.is("11 year", x.told(0), 9999);
    }

    private static void on() {
        ExemptBeauty x = new ExemptBeauty();
        x.person(0, 7, 39);
        x.person(0, 0, 0);
        x.person(0, 7, 20);
        Due.is("12 now", x.on(0, 0), 60);
        Due.is("12 a year on", x.on(1, 0), 70);
        Due.is("12 twenty on", x.on(20, 0), 80);
        Due.is("12 pays", x.on(0, 10), 0);
        Due.is("12 pays", x.on(1, 10), 10);
        Due.is("12 let off", x.on(0, 20), 63);
        Due.is("12 let off", x.on(1, 20), 61);
        Due.is("12 let off", x.on(60, 22), 61);
        Due.is("12 pays", x.on(19, 12), 0);
        Due.is("12 pays", x.on(20, 12), 10);
        Due.is("12 changed nothing", x.of(0, 2), 39);
        Due.is("12 changed nothing", x.of(0, 11), 7);
        Due.is("12 changed nothing", x.told(0), 0);
        x.leave(1, true);
        Due.is("12 left", x.on(1, 0), 10);
        Due.is("12 left", x.on(1, 11), 0);
        int[] nones = {-1, 1, 9, 13, 15, 16, 19, 23, 26, 30, MIN, MAX};
        for (int what : nones) {
            Due.is("12 on " + what, x.on(61, what), NONE);
        }
        Due.is("12 years", x.on(61, 0), BAD);
        Due.is("12 years", x.on(-1, 22), BAD);
    }

    private static void onBeyondTheLastYear() {
        ExemptBeauty x = new ExemptBeauty();
        for (int k = 0; k < 166; k++) {
            x.pass(60);
        }
        x.pass(39);
        x.person(0, 7, 39);
        Due.is("12 year", x.told(0), 9999);
        Due.is("12 beyond", x.on(1, 10), 10);
        Due.is("14 beyond", x.when(0, 1), 1);
        x.plan(0, 0);
        Due.is("26 beyond", x.ends(0), 10);
    }

    private static void seenAt() {
        ExemptBeauty x = new ExemptBeauty();
        Due.is("13 nobody", x.seenAt(0, 24), NONE);
        x.person(2, 4, 0);
        Due.is("13", x.seenAt(0, 12), 30);
        Due.is("13 odd", x.seenAt(0, 17), 60);
        Due.is("13", x.seenAt(0, 18), 30);
        Due.is("13 no light", x.seenAt(0, 4), 60);
        Due.office(x, "like 9 h=3");
        Due.is("13 hour in a test", x.seenAt(0, 3), 0);
        Due.is("13 changed nothing", x.told(1), 12);
        Due.is("13 hour", x.seenAt(0, 24), BAD);
        Due.is("13 hour", x.seenAt(0, -1), BAD);
        Due.is("13 person", x.seenAt(-1, 0), NONE);
        x.leave(0, true);
        Due.is("13 left", x.seenAt(0, 12), 0);
    }

    private static void best() {
        ExemptBeauty x = new ExemptBeauty();
        Due.is("14 nobody", x.when(0, 0), NONE);
        x.person(0, 5, 0);
        x.person(0, 6, 0);
        x.person(0, 0, 0);
        x.person(2, 4, 0);
        Due.is("14 best", x.when(0, 0), 18);
        Due.is("14 best, the first of seven", x.when(1, 0), 15);
        Due.is("14 best, all alike", x.when(2, 0), 0);
        Due.is("14 best", x.when(3, 0), 0);
        x.leave(0, true);
        Due.is("14 best of one who left", x.when(0, 0), 0);
        Due.is("14", x.when(0, 2), NONE);
        Due.is("14", x.when(0, -1), NONE);
        Due.is("14", x.when(-1, 0), NONE);
        Due.is("14", x.when(4, 1), NONE);
    }

    private static void rises() {
        ExemptBeauty x = new ExemptBeauty();
        x.person(0, 7, 38);
        x.person(1, 7, 19);
        x.person(0, 7, 40);
        x.person(1, 9, 0);
        x.person(1, 8, 0);
        x.person(0, 7, 0);
        x.grace(3, 3, 0);
        Due.is("14 rises at 40", x.when(0, 1), 2);
        Due.is("14 rises, fading", x.when(1, 1), 1);
        Due.is("14 rises no more", x.when(2, 1), -5);
        Due.is("14 rises in the sixtieth", x.when(3, 1), 60);
        Due.is("14 rises", x.when(4, 1), 40);
        Due.is("14 rises", x.when(5, 1), 40);
        Due.is("14 changed nothing", x.of(0, 2), 38);
        x.leave(0, true);
        Due.is("14 left", x.when(0, 1), -5);
        Due.office(x, "taste 7");
        Due.is("14 rises behind 80 alone", x.when(3, 1), -5);
    }

    /** v 5 pays nothing at 18 alone, v 6 pays nothing from 15 to 21. */
    private static void line() {
        ExemptBeauty x = new ExemptBeauty();
        Due.is("15 nobody", x.line(-1), 0);
        Due.is("15 nobody", x.line(0), -5);
        x.person(0, 5, 0);
        x.person(0, 6, 0);
        x.person(0, 0, 0);
        x.hour(17);
        Due.is("15 how much", x.line(-1), 60);
        Due.is("15 first", x.line(0), 1);
        Due.is("15 second", x.line(1), 0);
        Due.is("15 third", x.line(2), 2);
        Due.is("15 fewer", x.line(3), -5);
        Due.is("15 fewer", x.line(5), -5);
        Due.is("15", x.line(-2), NONE);
        Due.is("15", x.line(6), NONE);
        Due.is("15", x.line(MAX), NONE);
        x.leave(1, true);
        Due.is("15 how much", x.line(-1), 60);
        Due.is("15 first", x.line(0), 2);
        Due.is("15 second", x.line(1), 0);
        Due.is("15 fewer", x.line(2), -5);
        x.leave(0, true);
        x.leave(2, true);
        Due.is("15 all left", x.line(-1), 0);
        Due.is("15 all left", x.line(0), -5);
        Due.is("15 changed nothing", x.told(1), 17);
    }

    private static void lineGoesRound() {
        ExemptBeauty x = new ExemptBeauty();
        x.person(0, 5, 0);
        x.person(0, 6, 0);
        x.hour(23);
        Due.office(x, "light 0");
        Due.is("15 behind 23 comes 0", x.line(-1), 0);
        Due.is("15 first", x.line(0), 1);
        Due.is("15 second", x.line(1), 0);
        x.hour(0);
        Due.is("15", x.line(0), 0);
        for (int k = 0; k < 4; k++) {
            x.person(0, 9, 0);
        }
        x.hour(20);
        Due.is("15 six", x.line(-1), 0);
        int[] order = {2, 1, 3, 4, 0, 5};
        for (int k = 0; k < 6; k++) {
            Due.is("15 six, " + k, x.line(k), order[k]);
        }
    }

    private static void jointly() {
        ExemptBeauty x = town();
        Due.is("16", x.jointly(0, 1), 20);
        Due.is("16", x.jointly(1, 0), 20);
        Due.is("16", x.jointly(0, 2), 0);
        x.leave(0, true);
        Due.is("16 of one who left", x.jointly(0, 1), 20);
        Due.is("16 both", x.jointly(1, 1), BAD);
        Due.is("16 nobody ahead of both", x.jointly(3, 3), NONE);
        Due.is("16 nobody", x.jointly(0, 3), NONE);
        Due.is("16 nobody", x.jointly(-1, 0), NONE);
        Due.office(x, "rate 3;taste 2");
        Due.is("16 rate", x.jointly(0, 1), 6);
        Due.office(x, "taste 0");
        Due.is("16 all let off", x.jointly(0, 1), 0);
    }

    /** The first is let off 0, 1, 4, the second 1, 2, the third all. */
    private static ExemptBeauty town() {
        ExemptBeauty x = new ExemptBeauty();
        int[][] graces = {{9, 9, 0, 0, 9, 0}, {0, 9, 9, 0, 0, 0}, {9, 9, 9, 9, 9, 9}};
        for (int p = 0; p < 3; p++) {
            x.person(0, 0, 0);
            for (int t = 0; t < 6; t++) {
                x.grace(p, t, graces[p][t]);
            }
        }
        return x;
    }

    private static void pairs() {
        ExemptBeauty x = town();
        Due.is("17 alone they pay", x.told(6), 70);
        Due.is("17 how much", x.pairs(0), 20);
        Due.is("17", x.pairs(10), 1);
        Due.is("17", x.pairs(11), 0);
        Due.is("17 alone", x.pairs(12), -5);
        x.leave(1, true);
        Due.is("17 how much", x.pairs(0), 0);
        Due.is("17", x.pairs(10), 2);
        Due.is("17 left", x.pairs(11), -5);
        Due.is("17", x.pairs(12), 0);
        x.leave(2, true);
        Due.is("17 how much", x.pairs(0), 30);
        Due.is("17 nobody else", x.pairs(10), -5);
        x.leave(0, true);
        Due.is("17 all left", x.pairs(0), 0);
        Due.is("17 all left", x.pairs(10), -5);
        int[] nones = {-1, 1, 9, 13, 15, 16, MIN, MAX};
        for (int what : nones) {
            Due.is("17 pairs " + what, x.pairs(what), NONE);
        }
        Due.is("17 nobody", new ExemptBeauty().pairs(10), NONE);
        Due.is("17 nobody", new ExemptBeauty().pairs(0), 0);
    }

    /** Who pays nothing may stand with anybody: a partner comes ahead of nobody, the lesser ahead of the greater. */
    private static void pairsOfSeveral() {
        ExemptBeauty x = new ExemptBeauty();
        for (int p = 0; p < 5; p++) {
            x.person(0, 9, 0);
        }
        int[] five = {1, 0, 3, 2, -5};
        for (int p = 0; p < 5; p++) {
            Due.is("17 of five, " + p, x.pairs(10 + p), five[p]);
        }
        x.leave(1, true);
        int[] four = {2, -5, 0, 4, 3};
        for (int p = 0; p < 5; p++) {
            Due.is("17 of four, " + p, x.pairs(10 + p), four[p]);
        }
    }

    private static void raises() {
        ExemptBeauty x = new ExemptBeauty();
        Due.is("18 nobody", x.raises(0), 0);
        Due.is("18 nobody", x.raises(1), -5);
        x.person(0, 5, 0);
        Due.is("18", x.raises(0), 0);
        Due.is("18", x.raises(1), 7);
        Due.is("18", x.raises(60), 7);
        Due.is("18", x.raises(61), -5);
        Due.is("18", x.raises(9999), -5);
        Due.is("18", x.raises(10000), BAD);
        Due.is("18", x.raises(-1), BAD);
        x.grace(0, 4, 2);
        Due.is("18", x.raises(10), 4);
        Due.is("18", x.raises(11), 7);
        Due.office(x, "mind 20 p=0");
        Due.is("18 below 0", x.raises(60), 0);
        Due.office(x, "like 54 p=0;rate 99");
        Due.is("18", x.raises(99), 58);
        Due.is("18 60 is not below 60", x.raises(594), -5);
        Due.office(x, "like 53 p=0;rate 99");
        Due.is("18", x.raises(594), 60);
        Due.is("18", x.raises(595), -5);
        x.leave(0, true);
        Due.is("18 left", x.raises(1), -5);
    }
}
