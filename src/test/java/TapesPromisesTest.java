/** Promises 29 to 39: judging, the image, acts, tapes. */
public final class TapesPromisesTest {
    private static final int NONE = -1, BAD = -2, STATE = -3;
    private static final int NOTHING = -11, CAST = -12, PLACE = -13, SIZE = -14;
    private static final int MIN = Integer.MIN_VALUE, MAX = Integer.MAX_VALUE;
    private static final long NO = Long.MIN_VALUE;

    public static void main(String[] args) {
        judge();
        judgeNobody();
        image();
        imageOfOffices();
        acts();
        actsThatAreNone();
        taken();
        count();
        tape();
        item();
        shift();
        shiftPlaces();
        Due.end();
    }

    private static void judge() {
        ExemptBeauty x = new ExemptBeauty();
        x.person(0, 0, 0);
        x.person(0, 9, 0);
        x.person(0, 0, 0);
        x.leave(2, true);
        Due.is("29 holds nothing", x.judge(0, 0), 100);
        x.tape(0, 2, 5);
        Due.is("29 the first", x.judge(0, 0), 0);
        x.item(0, 1, 60);
        Due.is("29 as it is", x.judge(0, 1), -5);
        x.item(0, 3, 7);
        Due.is("29 the third", x.judge(0, 1), 2);
        x.item(0, 2, 7);
        Due.is("29 the second", x.judge(0, 1), 1);
        x.item(0, 4, 60);
        Due.is("29 ends behind one", x.judge(0, 4), 101);
        x.item(0, 3, 60);
        x.item(0, 4, 0);
        Due.is("29 ends behind two", x.judge(0, 3), 102);
        Due.is("29 ends at once", x.judge(0, 5), 100);
        Due.is("29 beyond", x.judge(0, MAX), 100);
        Due.is("29 below 0", x.judge(0, -1), 100);
        Due.is("29 below 0", x.judge(0, MIN), 100);
        Due.is("29 tape", x.judge(6, 0), NONE);
        Due.is("29 tape", x.judge(-1, 0), NONE);
        int[] others = {0, 1, 3, 4};
        for (int sort : others) {
            x.tape(1, sort, 5);
            Due.is("29 sort " + sort, x.judge(1, 0), CAST);
        }
        x.tape(1, 2, 0);
        Due.is("29 of no length", x.judge(1, 0), 100);
    }

    private static void judgeNobody() {
        ExemptBeauty x = new ExemptBeauty();
        Due.is("29 none to look at", x.judge(0, -3), -5);
        x.tape(0, 2, 1);
        Due.is("29 none to look at", x.judge(0, 9), -5);
        x.tape(0, 3, 1);
        Due.is("29 sort", x.judge(0, 0), CAST);
    }

    private static void image() {
        ExemptBeauty x = new ExemptBeauty();
        Due.is("31 none", x.undo(), STATE);
        x.person(6, 5, 39);
        x.row(0, 2, 4);
        x.grace(0, 4, 1);
        x.see(0, 0, true, 3);
        x.plan(3, 0);
        x.book(0, 60);
        x.pass(1);
        Due.is("30", x.image(), 1);
        x.person(0, 0, 0);
        x.row(0, 2, 9);
        x.grace(0, 4, 9);
        x.leave(0, true);
        x.hour(3);
        x.pass(5);
        x.see(-1, 0, true, 0);
        x.plan(0, 0);
        x.book(1, 7);
        x.feed(65);
        x.tape(2, 0, 3);
        x.act(0, 0, 0);
        Due.is("31", x.undo(), 1);
        Due.is("31 people", x.count(0), 1);
        Due.is("31 looks", x.count(2), 1);
        Due.is("31 plan", x.count(3), 1);
        Due.is("31 book", x.count(4), 1);
        Due.is("31 the text stays", x.count(5), 1);
        Due.is("31 the trace stays", x.count(6), 2);
        Due.is("31 tapes stay", x.read(2, 2), 0);
        Due.is("31 row", x.row(0, 2, 0), 4);
        Due.is("31 grace", x.of(0, 14), 1);
        Due.is("31 grace lost at 40", x.of(0, 15), 0);
        Due.is("31 left", x.of(0, 3), 0);
        Due.is("31 age", x.of(0, 2), 40);
        Due.is("31 hour", x.told(1), 12);
        Due.is("31 year", x.told(0), 1);
        Due.is("31 again", x.undo(), 1);
        Due.is("31 row again", x.row(0, 2, 0), 4);
        Due.is("31 another comes new", x.person(6, 2, 0), 1);
        Due.is("31 another comes new", x.row(1, 2, 0), 0);
        Due.is("30 taken anew", x.image(), 2);
        Due.is("31", x.undo(), 2);
    }

    private static void imageOfOffices() {
        ExemptBeauty x = new ExemptBeauty();
        x.image();
        Due.office(x, "taste 3");
        Due.is("31 nobody", x.undo(), 0);
        Due.is("31 no office holds", x.told(2), 8);
        Due.is("31 offices are as many", x.count(1), 1);
        Due.is("31 the next office", Due.office(x, "taste 4"), 1);
        x.image();
        Due.office(x, "taste 5");
        Due.is("31 holds", x.told(2), 5);
        x.undo();
        Due.is("31 held", x.told(2), 4);
    }

    private static void act(ExemptBeauty x, int person, int act, int due, int... bodies) {
        Due.is("32 act(" + person + ", " + act + ", 5)", x.act(person, act, 5), due);
        Due.is("35 bodies of " + person + ", " + act, x.count(6), bodies.length);
        for (int i = 0; i < bodies.length; i++) {
            Due.is("33 body " + i + " of " + person + ", " + act, x.trace(i), bodies[i]);
        }
        Due.is("33 behind the last", x.trace(bodies.length), NONE);
        Due.is("33 ahead of the first", x.trace(-1), NONE);
    }

    private static void acts() {
        ExemptBeauty x = new ExemptBeauty();
        x.person(0, 9, 0);
        x.person(6, 3, 0);
        x.person(4, 4, 0);
        x.person(1, 2, 0);
        x.person(5, 1, 0);
        x.person(3, 0, 0);
        act(x, 0, 0, 5, 10);
        act(x, 0, 1, -4, 11, 10);
        act(x, 0, 2, -8, 12, 11, 10);
        act(x, 1, 0, 5, 71, 10);
        act(x, 1, 1, 5, 70, 11, 71, 10, 10);
        act(x, 1, 2, 11, 40, 12, 70, 11, 71, 10, 10, 70, 11, 71, 10, 10);
        act(x, 2, 0, -7, 50, 10);
        act(x, 2, 1, -14, 51, 20, 11, 50, 10);
        act(x, 2, 2, -28, 12, 51, 20, 11, 50, 10);
        act(x, 3, 0, 8, 10);
        act(x, 3, 1, 0, 20, 11, 10);
        act(x, 3, 2, 0, 12, 20, 11, 10);
        act(x, 4, 0, 19, 30, 10);
        act(x, 4, 1, 18, 11, 30, 10);
        act(x, 4, 2, 12, 60, 12, 11, 30, 10);
        act(x, 5, 0, 10, 10);
        act(x, 5, 1, 10, 11, 10);
        act(x, 5, 2, 26, 40, 12, 11, 10, 11, 10);
        Due.is("32 wraps", x.act(5, 0, MAX), MIN + 4);
        Due.is("32 wraps", x.act(4, 0, MAX), MAX * 3 + 4);
        Due.is("32 wraps", x.act(2, 0, MAX - 1), MIN);
        Due.is("33 far", x.trace(MAX), NONE);
        ExemptBeauty y = new ExemptBeauty();
        y.person(2, 6, 0);
        act(y, 0, 0, 15, 30, 10);
        act(y, 0, 2, 18, 12, 11, 30, 10);
    }

    private static void actsThatAreNone() {
        ExemptBeauty x = new ExemptBeauty();
        Due.is("32 nobody", x.act(0, 0, 9), 0);
        x.person(0, 1, 0);
        int[][] nones = {{1, 0}, {-1, 0}, {0, 3}, {0, -1}, {MAX, MIN}};
        for (int[] none : nones) {
            Due.is("32", x.act(0, 2, 9), 16);
            Due.is("33", x.trace(0), 12);
            Due.is("32 none", x.act(none[0], none[1], 9), 0);
            Due.is("33 no trace", x.trace(0), NONE);
            Due.is("35 no bodies", x.count(6), 0);
        }
    }

    private static void taken() {
        ExemptBeauty x = new ExemptBeauty();
        Due.is("34 k ahead", x.taken(0, 7), BAD);
        Due.is("34 k ahead", x.taken(0, -1), BAD);
        Due.is("34 nobody", x.taken(0, 0), NOTHING);
        Due.is("34 nobody", x.taken(-1, 6), NOTHING);
        int[] unders = {0b1, 0b11, 0b101, 0b1001, 0b10011, 0b100101};
        for (int kind = 0; kind < 6; kind++) {
            x.person(kind, 0, 0);
        }
        ExemptBeauty y = new ExemptBeauty();
        y.person(6, 0, 0);
        for (int k = 0; k < 7; k++) {
            for (int kind = 0; kind < 6; kind++) {
                Due.is("34 " + kind + " for " + k, x.taken(kind, k), (unders[kind] >> k & 1) == 1 ? kind : CAST);
            }
            Due.is("34 6 for " + k, y.taken(0, k), k == 0 || k == 3 || k == 6 ? 6 : CAST);
        }
    }

    private static void count() {
        ExemptBeauty x = new ExemptBeauty();
        x.person(0, 0, 0);
        Due.office(x, "rate 1");
        x.see(0, 0, true, 0);
        x.see(0, 0, true, 0);
        for (int k = 0; k < 3; k++) {
            x.plan(0, 0);
        }
        for (int k = 0; k < 4; k++) {
            x.book(0, 0);
        }
        for (int k = 0; k < 5; k++) {
            x.feed(65);
        }
        x.act(0, 2, 0);
        int[] due = {1, 1, 2, 3, 4, 5, 3};
        for (int what = 0; what < 7; what++) {
            Due.is("35 count(" + what + ")", x.count(what), due[what]);
        }
        Due.is("35", x.count(7), BAD);
        Due.is("35", x.count(-1), BAD);
    }

    private static void tape() {
        ExemptBeauty x = new ExemptBeauty();
        Due.is("36 tape", x.tape(6, 9, 99), NONE);
        Due.is("36 tape", x.tape(-1, 0, 0), NONE);
        Due.is("36 sort", x.tape(0, 5, -1), BAD);
        Due.is("36 sort", x.tape(0, -2, 0), BAD);
        Due.is("36 size", x.tape(0, 0, 61), BAD);
        Due.is("36 size", x.tape(0, 0, -1), SIZE);
        Due.is("36 size", x.tape(0, 0, MIN), SIZE);
        Due.is("36 nothing yet", x.item(0, 0, 0), NOTHING);
        Due.is("36", x.tape(0, 3, 60), 1);
        Due.is("36 all 0", x.read(0, 59), 0);
        Due.is("36 no more", x.read(0, 60), NO);
        x.item(0, 0, 7);
        Due.is("36 anew", x.tape(0, 3, 2), 1);
        Due.is("36 all 0", x.read(0, 0), 0);
        Due.is("36 no more", x.read(0, 2), NO);
        Due.is("36 refused", x.tape(0, 3, -2), SIZE);
        Due.is("36 stays", x.read(0, 1), 0);
        Due.is("36 nothing", x.tape(0, -1, MIN), 1);
        Due.is("36 nothing", x.read(0, 0), NO);
        Due.is("36 of no items", x.tape(0, 4, 0), 1);
        Due.is("36 of no items", x.item(0, 0, 1), PLACE);
    }

    private static void item() {
        ExemptBeauty x = new ExemptBeauty();
        long[] values = {0, 1, -1, 127, 128, 255, 256, 32767, 32768, 65536, 2147483647L, 2147483648L, 4294967296L,
            Long.MAX_VALUE, Long.MIN_VALUE};
        for (int sort = 0; sort < 5; sort++) {
            x.tape(sort, sort, 2);
            for (long v : values) {
                long due = sort == 0 ? (byte) v : sort == 1 ? (short) v : sort == 2 ? (int) v : sort == 3 ? v : v == 0 ? 0 : 1;
                Due.is("37", x.item(sort, 1, v), 1);
                Due.is("38 sort " + sort + " of " + v, x.read(sort, 1), due);
                Due.is("37 another item", x.read(sort, 0), 0);
            }
        }
        Due.is("37 nothing", x.item(5, -1, 0), NOTHING);
        Due.is("37 tape", x.item(6, 0, 0), NONE);
        Due.is("37 tape", x.item(-1, 0, 0), NONE);
        Due.is("37 place", x.item(0, 2, 0), PLACE);
        Due.is("37 place", x.item(0, -1, 0), PLACE);
        Due.is("37 place", x.item(0, MAX, 0), PLACE);
        Due.is("38 tape", x.read(6, 0), NO);
        Due.is("38 tape", x.read(-1, 0), NO);
        Due.is("38 nothing", x.read(5, 0), NO);
        Due.is("38 place", x.read(0, 2), NO);
        Due.is("38 place", x.read(0, -1), NO);
    }

    private static void row(ExemptBeauty x, int tape, long... due) {
        for (int i = 0; i < due.length; i++) {
            Due.is("39 item " + i + " of " + tape, x.read(tape, i), due[i]);
        }
        Due.is("39 no more", x.read(tape, due.length), NO);
    }

    private static void shift() {
        ExemptBeauty x = new ExemptBeauty();
        x.tape(0, 1, 5);
        x.tape(1, 1, 3);
        for (int i = 0; i < 5; i++) {
            x.item(0, i, i + 1);
        }
        Due.is("39", x.shift(0, 0, 0, 1, 4), 4);
        row(x, 0, 1, 1, 2, 3, 4);
        Due.is("39", x.shift(0, 2, 0, 0, 3), 3);
        row(x, 0, 2, 3, 4, 3, 4);
        Due.is("39", x.shift(0, 3, 1, 1, 2), 2);
        row(x, 1, 0, 3, 4);
        row(x, 0, 2, 3, 4, 3, 4);
        Due.is("39", x.shift(1, 0, 0, 0, 3), 3);
        row(x, 0, 0, 3, 4, 3, 4);
        Due.is("39 none", x.shift(0, 5, 1, 3, 0), 0);
    }

    private static void shiftPlaces() {
        ExemptBeauty x = new ExemptBeauty();
        x.tape(0, 1, 5);
        x.tape(1, 1, 3);
        x.tape(2, 2, 5);
        x.item(0, 4, 8);
        Due.is("39 tape", x.shift(6, 0, 5, 0, -1), NONE);
        Due.is("39 tape", x.shift(0, 0, -1, 0, 1), NONE);
        Due.is("39 nothing", x.shift(0, 0, 5, 0, -1), NOTHING);
        Due.is("39 nothing", x.shift(5, 0, 0, 0, 1), NOTHING);
        Due.is("39 sorts", x.shift(0, 0, 2, 0, -1), CAST);
        int[][] places = {{0, 0, -1}, {-1, 0, 1}, {0, -1, 1}, {5, 0, 1}, {4, 0, 2}, {0, 3, 1}, {0, 1, 3}, {6, 0, 0}, {0, 4, 0},
            {MAX, 0, 1}, {0, MAX, 1}, {1, 1, MAX}, {MAX, MAX, MAX}, {MIN, 0, MAX}, {0, 0, MIN}, {1, 0, MIN}};
        for (int[] place : places) {
            Due.is("39 places " + place[0] + " " + place[1] + " " + place[2], x.shift(0, place[0], 1, place[1], place[2]), PLACE);
        }
        row(x, 1, 0, 0, 0);
        Due.is("39 to the end", x.shift(0, 2, 1, 0, 3), 3);
        row(x, 1, 0, 0, 8);
    }
}
