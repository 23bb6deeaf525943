/** Promises 1 to 10: a new object, people, offices. */
public final class PeoplePromisesTest {
    private static final int NONE = -1, BAD = -2, STATE = -3, FULL = -4;
    private static final int MIN = Integer.MIN_VALUE, MAX = Integer.MAX_VALUE;

    public static void main(String[] args) {
        newObject();
        person();
        of();
        fineByKinds();
        show();
        grace();
        leave();
        row();
        hour();
        feed();
        office();
        faults();
        officesFull();
        tests();
        nested();
        told();
        Due.end();
    }

    private static void newObject() {
        ExemptBeauty x = new ExemptBeauty();
        for (int what = 0; what <= 6; what++) {
            Due.is("1 count(" + what + ")", x.count(what), 0);
        }
        Due.is("1 told(0)", x.told(0), 0);
        Due.is("1 told(1)", x.told(1), 12);
        Due.is("1 told(2)", x.told(2), 8);
        Due.is("1 undo", x.undo(), STATE);
        Due.is("1 trace", x.trace(0), NONE);
        for (int t = 0; t < 6; t++) {
            Due.is("1 item", x.item(t, 0, 0), -11);
        }
    }

    private static void person() {
        ExemptBeauty x = new ExemptBeauty();
        Due.is("2 kind -1", x.person(-1, 10, 100), NONE);
        Due.is("2 kind 7", x.person(7, 0, 0), NONE);
        Due.is("2 kind MIN", x.person(MIN, 0, 0), NONE);
        Due.is("2 v -1", x.person(0, -1, 0), BAD);
        Due.is("2 v 10", x.person(0, 10, 0), BAD);
        Due.is("2 age -1", x.person(0, 0, -1), BAD);
        Due.is("2 age 100", x.person(0, 0, 100), BAD);
        Due.is("2 nobody came", x.count(0), 0);
        for (int p = 0; p < 6; p++) {
            Due.is("2 person " + p, x.person(p, p == 5 ? 9 : p, p == 5 ? 99 : p), p);
        }
        Due.is("2 full", x.person(0, 0, 0), FULL);
        Due.is("2 full, kind", x.person(7, 0, 0), NONE);
        Due.is("2 full, v", x.person(0, 10, 0), BAD);
        Due.is("2 six", x.count(0), 6);
        Due.is("2 kind of 4", x.of(4, 0), 4);
        Due.is("2 age of 5", x.of(5, 2), 99);
    }

    private static void of() {
        ExemptBeauty x = new ExemptBeauty();
        x.person(6, 7, 45);
        Due.is("3 kind", x.of(0, 0), 6);
        Due.is("3 v", x.of(0, 1), 7);
        Due.is("3 age", x.of(0, 2), 45);
        Due.is("3 left", x.of(0, 3), 0);
        // 7 + 3 / 3 is 8: the taste
        Due.is("3 pays", x.of(0, 4), 0);
        Due.is("3 let off", x.of(0, 5), 63);
        x.grace(0, 2, 6);
        x.grace(0, 5, 0);
        Due.is("3 pays for two", x.of(0, 4), 20);
        Due.is("3 let off", x.of(0, 5), 0b011011);
        Due.is("3 show", x.of(0, 6), 2);
        Due.is("3 grace 5", x.of(0, 15), 0);
        Due.is("3 fine 1, with hands", x.of(0, 21), 13);
        x.row(0, 1, 4);
        Due.is("3 fine 5, its row", x.of(0, 25), 5);
        Due.is("3 fine 1, its row", x.of(0, 21), 17);
        Due.is("3 liking", x.of(0, 30), 0);
        Due.office(x, "like 5 t=0;mind 9 t>3;mind 4 t=5");
        Due.is("3 liking 0", x.of(0, 30), 5);
        Due.is("3 liking 5", x.of(0, 35), -13);
        Due.is("3 fine 5 below 0", x.of(0, 25), -8);
        x.leave(0, true);
        Due.is("3 left", x.of(0, 3), 1);
        Due.is("3 left pays nothing", x.of(0, 4), 0);
        Due.is("3 left, let off as before", x.of(0, 5), 0b001011);
        int[] noFacts = {-1, 7, 9, 16, 19, 26, 29, 36, MIN, MAX};
        for (int what : noFacts) {
            Due.is("3 of " + what, x.of(0, what), -1001);
        }
        Due.is("3 no such", x.of(1, 0), -1001);
        Due.is("3 no such", x.of(-1, 0), -1001);
    }

    /** GLOW is 6 at hour 15 and 9 at 18: a third of it is 2 and 3; 16 and 18 are even, 15 is not. */
    private static void fineByKinds() {
        ExemptBeauty x = new ExemptBeauty();
        int[] kinds = {0, 1, 2, 3, 4, 5};
        int[] ages = {59, 59, 59, 59, 59, 19};
        for (int k = 0; k < 6; k++) {
            x.person(kinds[k], 4, ages[k]);
        }
        int[][] at15 = {
            {6, 6, 6, 6, 6, 6}, {4, 4, 4, 4, 4, 4}, {6, 6, 6, 6, 6, 6},
            {6, 11, 6, 6, 6, 6}, {2, 2, 2, 2, 2, 2}, {10, 10, 10, 10, 10, 10}
        };
        int[][] at18 = {
            {7, 7, 7, 7, 7, 7}, {5, 5, 5, 5, 5, 5}, {10, 10, 10, 7, 7, 7},
            {7, 12, 7, 7, 7, 7}, {2, 2, 2, 2, 2, 2}, {14, 14, 14, 11, 11, 11}
        };
        x.hour(15);
        fines(x, at15, "at 15");
        x.hour(18);
        fines(x, at18, "at 18");
        ExemptBeauty y = new ExemptBeauty();
        y.person(5, 4, 20);
        Due.is("3 not young at 20", y.of(0, 23), 5);
        y.person(6, 1, 0);
        for (int k = 0; k < 4; k++) {
            y.row(1, k, k + 2);
        }
        int[] rows = {2, 3 + 5, 4, 5, 2, 3};
        for (int t = 0; t < 6; t++) {
            Due.is("3 told's row at " + t, y.of(1, 20 + t), 1 + 1 + rows[t]);
        }
    }

    private static void fines(ExemptBeauty x, int[][] due, String when) {
        for (int p = 0; p < 6; p++) {
            for (int t = 0; t < 6; t++) {
                Due.is("3 fine of " + p + " at " + t + " " + when, x.of(p, 20 + t), due[p][t]);
            }
        }
    }

    private static void show() {
        ExemptBeauty x = new ExemptBeauty();
        x.person(0, 2, 0);
        Due.is("3 show, of several the first", x.of(0, 6), 0);
        x.grace(0, 3, 5);
        x.grace(0, 5, 5);
        x.grace(0, 4, 9);
        Due.is("3 show", x.of(0, 6), 3);
        Due.office(x, "mind 99 t<9");
        Due.is("3 show far below 0", x.of(0, 6), 4);
        Due.office(x, "taste 0");
        Due.is("3 nothing to show", x.of(0, 6), -5);
    }

    private static void grace() {
        ExemptBeauty x = new ExemptBeauty();
        x.person(0, 4, 0);
        Due.is("4 was v", x.grace(0, 5, 9), 4);
        Due.is("4 was 9", x.grace(0, 5, 0), 9);
        Due.is("4 is", x.of(0, 15), 0);
        Due.is("4 another part stays", x.of(0, 14), 4);
        Due.is("4 person", x.grace(1, 0, 10), NONE);
        Due.is("4 person", x.grace(-1, 0, 0), NONE);
        Due.is("4 part", x.grace(0, 6, 10), NONE);
        Due.is("4 part", x.grace(0, -1, 0), NONE);
        Due.is("4 n", x.grace(0, 5, 10), BAD);
        Due.is("4 n", x.grace(0, 5, -1), BAD);
        Due.is("4 is as it was", x.of(0, 15), 0);
    }

    private static void leave() {
        ExemptBeauty x = new ExemptBeauty();
        Due.is("5 nobody", x.leave(0, true), NONE);
        x.person(0, 0, 0);
        Due.is("5", x.leave(0, true), 0);
        Due.is("5", x.leave(0, true), 1);
        Due.is("5", x.leave(0, false), 1);
        Due.is("5", x.leave(0, false), 0);
        Due.is("5", x.leave(-1, false), NONE);
        Due.is("5", x.leave(1, false), NONE);
    }

    private static void row() {
        ExemptBeauty x = new ExemptBeauty();
        x.person(6, 5, 0);
        x.person(3, 5, 0);
        Due.is("6", x.row(0, 3, 9), 0);
        Due.is("6", x.row(0, 3, 1), 9);
        Due.is("6 fine", x.of(0, 23), 7);
        Due.is("6 fine", x.of(0, 22), 6);
        Due.is("6 person", x.row(2, 0, 10), NONE);
        Due.is("6 person", x.row(-1, 0, 10), NONE);
        Due.is("6 k", x.row(0, 4, 10), NONE);
        Due.is("6 k", x.row(0, -1, 0), NONE);
        Due.is("6 k ahead of kind", x.row(1, 4, 0), NONE);
        Due.is("6 n", x.row(0, 3, 10), BAD);
        Due.is("6 n", x.row(0, 3, -1), BAD);
        Due.is("6 n ahead of kind", x.row(1, 0, 10), BAD);
        Due.is("6 kind", x.row(1, 0, 1), STATE);
        Due.is("6 as it was", x.row(0, 3, 0), 1);
    }

    private static void hour() {
        ExemptBeauty x = new ExemptBeauty();
        Due.is("7", x.hour(23), 12);
        Due.is("7", x.hour(24), BAD);
        Due.is("7", x.hour(-1), BAD);
        Due.is("7", x.hour(0), 23);
        Due.is("7", x.hour(0), 0);
    }

    private static void feed() {
        ExemptBeauty x = new ExemptBeauty();
        Due.is("8", x.feed(-1), BAD);
        Due.is("8", x.feed(128), BAD);
        Due.is("8", x.feed(MAX), BAD);
        for (int i = 1; i <= 100; i++) {
            Due.is("8", x.feed(i == 1 ? 0 : 127), i);
        }
        Due.is("8 full", x.feed(65), FULL);
        Due.is("8 bad ahead of full", x.feed(128), BAD);
        Due.is("8 bytes", x.count(5), 100);
        Due.is("8 fault", x.office(), -10);
        Due.is("8 empty again", x.count(5), 0);
    }

    private static void office() {
        ExemptBeauty x = new ExemptBeauty();
        x.person(0, 0, 0);
        Due.is("9 first", Due.office(x, "like 7 t=2;taste 20;light 3;rate 4"), 0);
        Due.is("9 empty", x.count(5), 0);
        Due.is("9 taste", x.told(2), 20);
        Due.is("9 light", x.told(3), 3);
        Due.is("9 rate", x.told(4), 4);
        Due.is("9 liking", x.of(0, 32), 7);
        Due.is("9 fault", Due.office(x, "taste 3;"), -18);
        Due.is("9 empty", x.count(5), 0);
        Due.is("9 the one that held holds", x.told(2), 20);
        Due.is("9 offices", x.count(1), 1);
        Due.is("9 second", Due.office(x, "rate 05"), 1);
        Due.is("9 the newest holds", x.told(4), 5);
        Due.is("9 nothing of the one before", x.told(2), 8);
        Due.is("9 nothing of the one before", x.of(0, 32), 0);
        Due.is("9 the last one's n", Due.office(x, "taste 3;rate 7;taste 4;rate 0;light 5;light 24"), 2);
        Due.is("9 taste", x.told(2), 4);
        Due.is("9 light", x.told(3), 23);
        Due.is("9 rate", x.told(4), 0);
    }

    private static void faults() {
        String[] texts = {
            "", "l", "lo", "lik", "limp", "lighr 1", "mint", "m", "taste", "taste ", "taste  1", "taste 1 ", "taste 100",
            "taste 1;", "taste 1;;", "rate1", "Rate 1", " rate 1", "like 1", "like 1 ", "like 1  p=1", "like 1;rate 1",
            "like 1 p", "like 1 p=", "like 1 p=1)", "like 1 p=123", "like 1 p>=1", "like 1 q=1", "like 1 p=1&", "like 1 p=1|;",
            "like 1 p=1 ", "like 1 (p=1", "like 1 (p=1;", "like 1 ()", "like 1 !", "like 1 !)", "mind 1 !!!!p=1", "mind 1 !!!!!p=1",
            "mind 1 !!!!(p=1)", "mind 1 ((((!p=1))))", "mind 1 (!(!p=1))&!!(!(p=1))", "mind 1 (!(!(p=1)))", "mind 1 (!(!p=1))&!!(!p=1)",
            "rate 1;rate 2;rate 3;rate 4;rate 5;rate 6;rate 7;rate 8;rate 9;rate 0",
            "rate 1;rate 2;rate 3;rate 4;rate 5;rate 6;rate 7;rate 8;rate 9;rate 0;",
            "rate 1;rate 2;rate 3;rate 4;rate 5;rate 6;rate 7;rate 8;rate 9;rate 10;rate 1",
            "like 99 p<0&(t>99|k=5)|!v=3&a<4|h>12;light 7", "like -1 p=1", "mind 1 p=1p=2", "like 1 (p=1)(p=2)", "like 1 p=1!p=2"
        };
        int[] faults = {
            0, 1, 1, 3, 2, 4, 3, 1, 5, 6, 6, 7, 8,
            8, 8, 4, 0, 0, 6, 7, 7, 6,
            8, 9, 10, 11, 9, 7, 11, 11,
            10, 11, 11, 8, 8, 8, -1, 11,
            11, 11, 21, 11, -1,
            -1,
            69,
            70,
            -1, 5, 10, 12, 10
        };
        Due.is("9 as many faults as texts", texts.length, faults.length);
        for (int i = 0; i < texts.length; i++) {
            Due.is("9 office of '" + texts[i] + "'", Due.office(new ExemptBeauty(), texts[i]), faults[i] < 0 ? 0 : -10 - faults[i]);
        }
    }

    private static void officesFull() {
        ExemptBeauty x = new ExemptBeauty();
        for (int o = 0; o < 6; o++) {
            Due.is("9 office", Due.office(x, "taste 1" + o), o);
        }
        Due.is("9 full", Due.office(x, "taste 9"), FULL);
        Due.is("9 the text stays", x.count(5), 7);
        Due.is("9 full ahead of fault", x.feed(59), 8);
        Due.is("9 full ahead of fault", x.office(), FULL);
        Due.is("9 the sixth holds", x.told(2), 15);
        Due.is("9 six", x.count(1), 6);
    }

    private static int likes(String test, int kind, int v, int age, int hour, int part) {
        ExemptBeauty x = new ExemptBeauty();
        x.person(0, 0, 0);
        x.person(kind, v, age);
        x.hour(hour);
        Due.is("9 office of " + test, Due.office(x, "like 1 " + test), 0);
        return x.of(1, 30 + part);
    }

    private static void tests() {
        Due.is("9 p=1", likes("p=1", 0, 0, 0, 0, 0), 1);
        Due.is("9 p<1", likes("p<1", 0, 0, 0, 0, 0), 0);
        Due.is("9 p>0", likes("p>0", 0, 0, 0, 0, 0), 1);
        Due.is("9 t=3", likes("t=3", 0, 0, 0, 0, 3), 1);
        Due.is("9 t>3", likes("t>3", 0, 0, 0, 0, 3), 0);
        Due.is("9 t<4", likes("t<04", 0, 0, 0, 0, 3), 1);
        Due.is("9 k=5", likes("k=5", 5, 0, 0, 0, 0), 1);
        Due.is("9 k<5", likes("k<5", 5, 0, 0, 0, 0), 0);
        Due.is("9 v=8", likes("v=8", 5, 8, 0, 0, 0), 1);
        Due.is("9 v>8", likes("v>8", 5, 8, 0, 0, 0), 0);
        Due.is("9 a=3", likes("a=3", 5, 0, 39, 0, 0), 1);
        Due.is("9 a>3", likes("a>3", 5, 0, 39, 0, 0), 0);
        Due.is("9 a<99", likes("a<99", 5, 0, 99, 0, 0), 1);
        Due.is("9 h=17", likes("h=17", 5, 0, 99, 17, 0), 1);
        Due.is("9 h<17", likes("h<17", 5, 0, 99, 17, 0), 0);
    }

    private static void nested() {
        String[] yes = {"p=0|p=1&t=0", "p=1|p=0&t=9", "!p=0&t=0", "!(p=0|t=9)", "p=1&(t=9|v=0)", "!!p=1", "!(!p=1)", "p=0&t=0|k=0",
            "(p=0|k=0)&(t=9|!t=9)", "((((p=1))))", "p=0|p=0|p=0|p=1", "p=1&p=1&p=1&t=0", "!!!p=0"};
        String[] no = {"(p=1|p=0)&t=9", "!p=1|t=9", "!(p=1&t=0)", "!p=0&t=9", "p=1&t=0&v=1", "!!!p=1", "p=0|t=1", "!(p=1)&p=1",
            "((p=1))&((t=1))", "p=9|p=1&t=9|k=3"};
        for (String test : yes) {
            Due.is("9 " + test, likes(test, 0, 0, 0, 0, 0), 1);
        }
        for (String test : no) {
            Due.is("9 " + test, likes(test, 0, 0, 0, 0, 0), 0);
        }
    }

    private static void told() {
        ExemptBeauty x = new ExemptBeauty();
        x.person(0, 0, 0);
        x.person(0, 9, 0);
        x.person(0, 0, 0);
        x.leave(2, true);
        x.pass(7);
        Due.is("10 year", x.told(0), 7);
        Due.is("10 hour", x.told(1), 12);
        Due.is("10 taste", x.told(2), 8);
        Due.is("10 light", x.told(3), 18);
        Due.is("10 rate", x.told(4), 10);
        Due.is("10 pays", x.told(6), 60);
        Due.is("10 none", x.told(7), NONE);
        Due.is("10 none", x.told(-1), NONE);
        int[] glow = {3, 2, 1, 0, 0, 0, 0, 0, 0, 0, 1, 2, 3, 4, 5, 6, 7, 8, 9, 8, 7, 6, 5, 4};
        for (int h = 0; h < 24; h++) {
            x.hour(h);
            Due.is("10 glow at " + h, x.told(5), glow[h]);
        }
        Due.office(x, "light 0");
        Due.is("10 light", x.told(3), 0);
        Due.is("10 glow, hours go round", x.told(5), 8);
        x.hour(12);
        Due.is("10 glow", x.told(5), 0);
    }
}
