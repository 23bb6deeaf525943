/**
 * Sections 2 and 3 with promises 29 to 39 (judging, the image, acts, tapes): the bounds told, nothing there, what wraps,
 * and what the image holds and does not hold.
 */
public final class EdgesOfTapesTest {
    private static final int NONE = -1, BAD = -2, STATE = -3;
    private static final int NOTHING = -11, CAST = -12, PLACE = -13, SIZE = -14;
    private static final int MIN = Integer.MIN_VALUE, MAX = Integer.MAX_VALUE;
    private static final long NO = Long.MIN_VALUE;
    private static final int[] FAR = {MIN, MIN + 1, -1000, 1000, MAX - 1, MAX};

    public static void main(String[] args) {
        judgedRow();
        judgedShort();
        judgedNobody();
        judgeRefused();
        imageOfEach();
        imageIsNoWindow();
        imageOfNobody();
        imageOfFull();
        officesOutliveUndo();
        whatImageLeaves();
        actsWrap();
        actsOfNone();
        actsBeyondOfKinds();
        tracesAnew();
        takenEdges();
        countEdges();
        tapesTold();
        tapesRefused();
        itemsWrap();
        itemsRefused();
        readsRefused();
        shiftEdges();
        shiftOverItself();
        shiftRefused();
        shiftOfSorts();
        Due.end();
    }

    private static ExemptBeauty town(int... vs) {
        ExemptBeauty x = new ExemptBeauty();
        for (int v : vs) {
            x.person(0, v, 0);
        }
        return x;
    }

    private static void write(ExemptBeauty x, int tape, int sort, long... items) {
        Due.is("36 tape", x.tape(tape, sort, items.length), 1);
        for (int i = 0; i < items.length; i++) {
            Due.is("37 item", x.item(tape, i, items[i]), 1);
        }
    }

    private static void isRow(String what, ExemptBeauty x, int tape, long... due) {
        for (int i = 0; i < due.length; i++) {
            Due.is(what + ", item " + i, x.read(tape, i), due[i]);
        }
        Due.is(what + ", no more", x.read(tape, due.length), NO);
    }

    // ---- judging

    private static ExemptBeauty six() {
        ExemptBeauty x = town(0, 9, 0, 9, 0, 0);
        x.leave(5, true);
        return x;
    }

    private static final long[] PAID = {60, 0, 60, 0, 60, 0};

    private static void judgedRow() {
        for (int wrong = 0; wrong <= 6; wrong++) {
            ExemptBeauty x = six();
            write(x, 5, 2, PAID);
            for (int p = wrong; p < 6; p++) {
                x.item(5, p, PAID[p] + 1);
            }
            Due.is("29 the first otherwise", x.judge(5, 0), wrong < 6 ? wrong : -5);
        }
        ExemptBeauty x = six();
        write(x, 0, 2, 7, 7, 60, 0, 60, 0, 60, 0, 7);
        Due.is("29 from place 2 on", x.judge(0, 2), -5);
        Due.is("29 from place 0 on", x.judge(0, 0), 0);
        Due.is("29 from place 4 on", x.judge(0, 4), 4);
        x.item(0, 8, 60);
        Due.is("29 from place 4 on, the row ends", x.judge(0, 4), 105);
        x.leave(5, false);
        Due.is("29 from place 2 on, it pays now", x.judge(0, 2), 5);
        Due.is("29 nobody changed the row", x.read(0, 2), 60);
    }

    private static void judgedShort() {
        for (int n = 0; n <= 7; n++) {
            ExemptBeauty x = six();
            x.tape(0, 2, n);
            for (int i = 0; i < n && i < 6; i++) {
                x.item(0, i, PAID[i]);
            }
            Due.is("29 a row of " + n, x.judge(0, 0), n < 6 ? 100 + n : -5);
            Due.is("29 from its end on", x.judge(0, n), 100);
            Due.is("29 from beyond its end on", x.judge(0, n + 1), 100);
            Due.is("29 from -1 on", x.judge(0, -1), 100);
        }
        ExemptBeauty x = six();
        write(x, 0, 2, 60, 1);
        Due.is("29 otherwise ahead of the end", x.judge(0, 0), 1);
        Due.is("29 holds nothing", x.judge(1, 0), 100);
        Due.is("29 holds nothing, from -1 on", x.judge(1, -1), 100);
        x.tape(2, 2, 60);
        x.item(2, 59, 60);
        Due.is("29 the last place", x.judge(2, 59), 101);
        Due.is("29 behind it", x.judge(2, 60), 100);
        for (int far : FAR) {
            Due.is("29 from " + far + " on", x.judge(2, far), 100);
        }
    }

    private static void judgedNobody() {
        ExemptBeauty x = new ExemptBeauty();
        Due.is("29 nobody, nothing held", x.judge(0, 0), -5);
        x.tape(0, 2, 1);
        int[] places = {-1, 0, 1, 2, MIN, MAX};
        for (int i : places) {
            Due.is("29 nobody", x.judge(0, i), -5);
            Due.is("29 nobody, nothing held", x.judge(1, i), -5);
        }
    }

    private static void judgeRefused() {
        ExemptBeauty[] towns = {new ExemptBeauty(), six()};
        for (ExemptBeauty x : towns) {
            Due.is("29 tape -1", x.judge(-1, 0), NONE);
            Due.is("29 tape 6", x.judge(6, 0), NONE);
            for (int far : FAR) {
                Due.is("29 tape " + far, x.judge(far, 0), NONE);
            }
            int[] sorts = {0, 1, 3, 4};
            for (int sort : sorts) {
                x.tape(sort, sort, 6);
                Due.is("29 sort " + sort, x.judge(sort, 0), CAST);
                Due.is("29 sort ahead of place", x.judge(sort, -1), CAST);
                x.tape(sort, sort, 0);
                Due.is("29 sort of no length", x.judge(sort, 0), CAST);
                x.tape(sort, -1, 0);
                Due.is("29 nothing is no other sort", x.judge(sort, 0), x.count(0) == 0 ? -5 : 100);
            }
        }
    }

    // ---- the image

    private static final Picture.Calls LIVELY = x -> {
        x.person(6, 5, 39);
        x.person(4, 8, 60);
        x.person(2, 4, 19);
        x.row(0, 1, 3);
        x.row(0, 3, 7);
        x.grace(1, 2, 9);
        x.leave(1, true);
        x.see(0, 0, true, 0);
        x.see(2, 4, false, 20);
        x.plan(3, 0);
        x.plan(2, 0);
        x.plan(0, 0);
        feed(x, "like 2 t=1;taste 7");
        x.office();
        x.pass(3);
        x.hour(20);
        x.book(0, x.of(0, 4));
        x.book(2, x.of(2, 4));
        x.image();
    };

    private static void feed(ExemptBeauty x, String text) {
        for (int i = 0; i < text.length(); i++) {
            x.feed(text.charAt(i));
        }
    }

    /** Whatever the image holds becomes otherwise, and is as it was behind undo. */
    private static void imageOfEach() {
        Picture.Calls[] changes = {
            x -> x.person(0, 1, 2), x -> x.grace(0, 0, 9), x -> x.grace(2, 5, 0), x -> x.leave(0, true), x -> x.leave(1, false),
            x -> x.row(0, 0, 9), x -> x.row(0, 1, 0), x -> x.row(0, 2, 9), x -> x.row(0, 3, 0), x -> x.hour(12),
            x -> x.pass(1), x -> x.see(-1, 0, true, 0), x -> x.see(1, 3, true, 0), x -> x.plan(-1, 0), x -> x.plan(1, 3),
            x -> x.book(-1, 0), x -> x.book(1, 7),
            x -> {
                x.see(-1, 0, true, 0);
                x.see(1, 1, false, 3);
                x.see(1, 2, false, 3);
            },
            x -> {
                x.plan(-1, 0);
                x.plan(1, 1);
                x.plan(1, 2);
                x.plan(1, 3);
            },
            x -> {
                x.book(-1, 0);
                x.book(1, 1);
                x.book(1, 2);
            }
        };
        for (int k = 0; k < changes.length; k++) {
            Picture.Calls change = changes[k];
            Picture.isOther("a change to be seen: " + k, LIVELY, change);
            Picture.isSame("31 as the image behind change " + k, LIVELY, x -> {
                change.on(x);
                Due.is("31 people", x.undo(), 3);
            });
            Picture.isSame("31 as the image, twice, behind change " + k, LIVELY, x -> {
                change.on(x);
                x.undo();
                change.on(x);
                Due.is("31 people", x.undo(), 3);
            });
        }
    }

    /** What is done behind an image changes nothing in it, and what is done behind undo, too. */
    private static void imageIsNoWindow() {
        ExemptBeauty x = town(3);
        Due.is("30 one", x.image(), 1);
        x.grace(0, 2, 9);
        Due.is("30 taken anew", x.image(), 1);
        x.grace(0, 2, 1);
        Due.is("31", x.undo(), 1);
        Due.is("31 as the newer image", x.of(0, 12), 9);
        x.grace(0, 2, 1);
        Due.is("31", x.undo(), 1);
        Due.is("31 undo leaves the image", x.of(0, 12), 9);
        Due.is("31 undo of nothing", x.undo(), 1);
        Due.is("31 the same", x.of(0, 12), 9);
    }

    private static void imageOfNobody() {
        ExemptBeauty x = new ExemptBeauty();
        Due.is("31 no image", x.undo(), STATE);
        x.person(6, 9, 50);
        x.row(0, 0, 9);
        x.leave(0, true);
        Due.is("31 no image yet", x.undo(), STATE);
        Due.is("35 stays", x.count(0), 1);
        ExemptBeauty y = new ExemptBeauty();
        Due.is("30 of nobody", y.image(), 0);
        y.person(6, 9, 50);
        y.row(0, 0, 9);
        y.leave(0, true);
        Due.is("31 nobody", y.undo(), 0);
        Due.is("3 nobody", y.of(0, 0), -1001);
        Due.is("2 the first again", y.person(6, 2, 3), 0);
        Due.is("3 not left", y.of(0, 3), 0);
        Due.is("6 row at first", y.row(0, 0, 0), 0);
        Due.is("3 grace", y.of(0, 15), 2);
        Due.is("3 age", y.of(0, 2), 3);
    }

    private static void imageOfFull() {
        ExemptBeauty x = new ExemptBeauty();
        for (int p = 0; p < 6; p++) {
            x.person(6, p, p);
            x.row(p, p % 4, p + 1);
            x.grace(p, 5 - p, 7);
            x.see(p, p, p % 2 == 0, p + 1);
        }
        for (int k = 0; k < 10; k++) {
            x.plan(1, k);
        }
        for (int k = 0; k < 8; k++) {
            x.book(k % 6, k);
        }
        Due.is("30 six", x.image(), 6);
        x.see(-1, 0, true, 0);
        x.plan(-1, 0);
        x.book(-1, 0);
        for (int p = 0; p < 6; p++) {
            x.row(p, p % 4, 0);
            x.grace(p, 5 - p, 0);
        }
        Due.is("31 six", x.undo(), 6);
        int[] counts = {6, 0, 6, 10, 8};
        for (int what = 0; what < 5; what++) {
            Due.is("35 as many of " + what, x.count(what), counts[what]);
        }
        for (int p = 0; p < 6; p++) {
            Due.is("31 grace of " + p, x.of(p, 15 - p), 7);
            Due.is("31 row of " + p, x.row(p, p % 4, 0), p + 1);
        }
        Due.is("2 full", x.person(0, 0, 0), -4);
        Due.is("19 full", x.see(0, 0, true, 0), -4);
        Due.is("25 full", x.plan(0, 0), -4);
        Due.is("27 full", x.book(0, 0), -4);
    }

    private static void officesOutliveUndo() {
        ExemptBeauty x = new ExemptBeauty();
        x.image();
        for (int o = 0; o < 5; o++) {
            feed(x, "rate 2" + o);
            Due.is("9 office", x.office(), o);
            x.undo();
            Due.is("31 none holds", x.told(4), 10);
            Due.is("35 offices are as many", x.count(1), o + 1);
        }
        feed(x, "rate 25");
        Due.is("9 the sixth", x.office(), 5);
        x.image();
        feed(x, "rate 26");
        Due.is("9 full", x.office(), -4);
        x.undo();
        Due.is("31 the sixth holds", x.told(4), 25);
        Due.is("9 full", x.office(), -4);
    }

    private static void whatImageLeaves() {
        ExemptBeauty x = town(1);
        feed(x, "rate 1");
        x.image();
        x.feed('2');
        write(x, 3, 1, 5, 6);
        x.act(0, 2, 0);
        Due.is("31", x.undo(), 1);
        Due.is("31 the text is no part of it", x.count(5), 7);
        isRow("31 tapes are no part of it", x, 3, 5, 6);
        Due.is("31 the trace is no part of it", x.trace(0), 12);
        Due.is("31 the trace is no part of it", x.count(6), 3);
        Due.is("9 the text", x.office(), 0);
        Due.is("9 the text", x.told(4), 12);
    }

    // ---- acts

    private static void actsWrap() {
        ExemptBeauty x = new ExemptBeauty();
        int[] kinds = {0, 1, 2, 3, 4, 6};
        for (int p = 0; p < 6; p++) {
            x.person(kinds[p], 9, 0);
        }
        Due.is("32 x + i", x.act(5, 0, MAX) ^ 9, MAX + 5);
        Due.is("32 x + i - v", x.act(0, 1, MIN), MIN - 9);
        Due.is("32 by 2", x.act(0, 2, MIN), (MIN - 9) * 2);
        Due.is("32 by 2", x.act(0, 2, MAX), (MAX - 9) * 2);
        Due.is("32 ^ 6", x.act(1, 1, MIN + 7), (MIN + 7 + 1 - 9) ^ 6);
        Due.is("32 by 3", x.act(2, 0, MAX), MAX * 3 + 2);
        Due.is("32 by 3", x.act(2, 0, MIN), MIN * 3 + 2);
        Due.is("32 tells + pays(1)", x.act(3, 2, MAX), (MAX + 3 - 9) * 2 + (1 + 3 - 9));
        Due.is("32 less than nothing", x.act(4, 0, MIN), -(MIN + 4));
        Due.is("32 less than the least", x.act(4, 0, MIN - 4), MIN);
        Due.is("32 x + 1", x.act(4, 1, MAX), (-(MIN + 4) - 9) ^ 6);
        ExemptBeauty y = new ExemptBeauty();
        y.person(0, 0, 0);
        y.person(5, 0, 0);
        Due.is("32 x - i", y.act(1, 2, MIN), (MAX * 3 + 1) * 2);
    }

    private static void actsOfNone() {
        int[][] none = {{-1, 0}, {1, 0}, {6, 0}, {MIN, 0}, {MAX, 0}, {0, -1}, {0, 3}, {0, MIN}, {0, MAX}, {1, 3}};
        for (int[] one : none) {
            ExemptBeauty x = town(5);
            Due.is("32 none", x.act(one[0], one[1], 9), 0);
            Due.is("33 no trace", x.trace(0), NONE);
            Due.is("32 tells", x.act(0, 2, 9), 8);
            Due.is("35 three ran", x.count(6), 3);
            Due.is("32 none", x.act(one[0], one[1], 9), 0);
            Due.is("35 none ran", x.count(6), 0);
            for (int i = 0; i < 3; i++) {
                Due.is("33 no trace then", x.trace(i), NONE);
            }
        }
    }

    /** Kinds with many bodies and kinds with few: there is no fourth act in any of them, nor one below 0. */
    private static void actsBeyondOfKinds() {
        for (int kind = 0; kind <= 6; kind++) {
            ExemptBeauty x = new ExemptBeauty();
            x.person(kind, 3, 0);
            int[] none = {-3, -2, -1, 3, 4, 5};
            for (int act : none) {
                Due.is("32 act " + act + " of kind " + kind, x.act(0, act, 7), 0);
                Due.is("35 none ran", x.count(6), 0);
                Due.is("33 no trace", x.trace(0), NONE);
            }
        }
    }

    /** The longest that there is: a TOLD one tells; the 20 that are kept at most are never reached. */
    private static void tracesAnew() {
        ExemptBeauty x = new ExemptBeauty();
        x.person(6, 1, 0);
        x.person(0, 1, 0);
        int[] longest = {40, 12, 70, 11, 71, 10, 10, 70, 11, 71, 10, 10};
        x.act(0, 2, 4);
        Due.is("35 all that ran", x.count(6), 12);
        for (int i = 0; i < 22; i++) {
            Due.is("33 body " + i, x.trace(i), i < 12 ? longest[i] : NONE);
        }
        Due.is("33 -1", x.trace(-1), NONE);
        for (int far : FAR) {
            Due.is("33 far", x.trace(far), NONE);
        }
        x.act(1, 0, 4);
        Due.is("35 the latest alone", x.count(6), 1);
        Due.is("33 the latest alone", x.trace(0), 10);
        Due.is("33 nothing of the one before", x.trace(1), NONE);
        x.see(-1, 0, true, 0);
        x.image();
        x.undo();
        Due.is("33 stays until the next", x.trace(0), 10);
    }

    private static void takenEdges() {
        ExemptBeauty x = town(0);
        int[] bad = {-1, 7, MIN, MAX};
        for (int k : bad) {
            Due.is("34 k " + k, x.taken(0, k), BAD);
            Due.is("34 k ahead of person", x.taken(1, k), BAD);
        }
        int[] nobody = {-1, 1, 6, MIN, MAX};
        for (int p : nobody) {
            for (int k = 0; k <= 6; k++) {
                Due.is("34 person " + p, x.taken(p, k), NOTHING);
            }
        }
        int[] above = {-1, 0, 0, 0, 1, 2, 3};
        for (int kind = 0; kind <= 6; kind++) {
            ExemptBeauty y = new ExemptBeauty();
            y.person(kind, 0, 0);
            for (int k = 0; k <= 6; k++) {
                boolean is = k == kind || k == above[kind] || k == 0;
                Due.is("34 kind " + kind + " for " + k, y.taken(0, k), is ? kind : CAST);
            }
        }
    }

    private static void countEdges() {
        ExemptBeauty x = town(0, 0, 0);
        int[] due = {3, 0, 0, 0, 0, 0, 0};
        for (int what = 0; what <= 6; what++) {
            Due.is("35 count " + what, x.count(what), due[what]);
        }
        int[] bad = {-1, 7, 8, MIN, MAX};
        for (int what : bad) {
            Due.is("35 count " + what, x.count(what), BAD);
        }
    }

    // ---- tapes

    private static void tapesTold() {
        for (int tape = 0; tape < 6; tape++) {
            ExemptBeauty x = new ExemptBeauty();
            for (int sort = 0; sort <= 4; sort++) {
                Due.is("36 sixty", x.tape(tape, sort, 60), 1);
                Due.is("36 the last", x.read(tape, 59), 0);
                Due.is("36 one beyond", x.read(tape, 60), NO);
                Due.is("37 the last", x.item(tape, 59, 1), 1);
                Due.is("37 one beyond", x.item(tape, 60, 1), PLACE);
                Due.is("36 none", x.tape(tape, sort, 0), 1);
                Due.is("36 none", x.read(tape, 0), NO);
                Due.is("37 none", x.item(tape, 0, 1), PLACE);
                Due.is("36 sixty, all 0 again", x.tape(tape, sort, 60), 1);
                Due.is("36 all 0 again", x.read(tape, 59), 0);
                x.item(tape, 0, 1);
            }
            Due.is("36 nothing", x.tape(tape, -1, 61), 1);
            Due.is("37 nothing", x.item(tape, 0, 1), NOTHING);
            Due.is("38 nothing", x.read(tape, 0), NO);
            for (int other = 0; other < 6; other++) {
                Due.is("37 nothing at first", x.item(other, 0, 1), NOTHING);
            }
        }
    }

    private static void tapesRefused() {
        ExemptBeauty x = new ExemptBeauty();
        write(x, 2, 1, 300, -7);
        int[] tapes = {-1, 6, 7, MIN, MAX};
        for (int tape : tapes) {
            Due.is("36 tape " + tape, x.tape(tape, 0, 1), NONE);
            Due.is("36 tape " + tape, x.tape(tape, -1, 1), NONE);
            Due.is("36 tape ahead of sort", x.tape(tape, 5, 1), NONE);
            Due.is("36 tape ahead of size", x.tape(tape, 0, -1), NONE);
        }
        int[] sorts = {-2, 5, 6, MIN, MAX};
        for (int sort : sorts) {
            Due.is("36 sort " + sort, x.tape(2, sort, 1), BAD);
            Due.is("36 sort ahead of size", x.tape(2, sort, -1), BAD);
        }
        for (int sort = 0; sort <= 4; sort++) {
            Due.is("36 61", x.tape(2, sort, 61), BAD);
            Due.is("36 far above", x.tape(2, sort, MAX), BAD);
            Due.is("36 -1", x.tape(2, sort, -1), SIZE);
            Due.is("36 far below", x.tape(2, sort, MIN), SIZE);
        }
        isRow("36 stays", x, 2, 300, -7);
        int[] any = {-1, 0, 61, MIN, MAX};
        for (int n : any) {
            write(x, 2, 1, 300, -7);
            Due.is("36 nothing, n does not matter", x.tape(2, -1, n), 1);
            Due.is("37 nothing", x.item(2, 0, 0), NOTHING);
        }
    }

    private static void itemsWrap() {
        long[] given = {127, 128, 255, 256, -128, -129, 32767, 32768, 65535, 65536, -32768, -32769, 2147483647L, 2147483648L,
            4294967295L, 4294967296L, -2147483648L, -2147483649L, Long.MAX_VALUE, Long.MIN_VALUE, 0, 1, -1, 2};
        long[] bytes = {127, -128, -1, 0, -128, 127, -1, 0, -1, 0, 0, -1, -1, 0, -1, 0, 0, -1, -1, 0, 0, 1, -1, 2};
        long[] shorts = {127, 128, 255, 256, -128, -129, 32767, -32768, -1, 0, -32768, 32767, -1, 0, -1, 0, 0, -1, -1, 0, 0, 1, -1, 2};
        long[] ints = {127, 128, 255, 256, -128, -129, 32767, 32768, 65535, 65536, -32768, -32769, 2147483647L, -2147483648L, -1, 0,
            -2147483648L, 2147483647L, -1, 0, 0, 1, -1, 2};
        long[] booleans = {1, 1, 1, 1, 1, 1, 1, 1, 1, 1, 1, 1, 1, 1, 1, 1, 1, 1, 1, 1, 0, 1, 1, 1};
        long[][] due = {bytes, shorts, ints, given, booleans};
        for (int sort = 0; sort <= 4; sort++) {
            ExemptBeauty x = new ExemptBeauty();
            x.tape(0, sort, 3);
            for (int k = 0; k < given.length; k++) {
                Due.is("37 item", x.item(0, 1, given[k]), 1);
                Due.is("37 " + given[k] + " of sort " + sort, x.read(0, 1), due[sort][k]);
                Due.is("37 the one ahead", x.read(0, 0), 0);
                Due.is("37 the one behind", x.read(0, 2), 0);
            }
        }
    }

    private static void itemsRefused() {
        ExemptBeauty x = new ExemptBeauty();
        write(x, 0, 2, 4, 5);
        int[] tapes = {-1, 6, MIN, MAX};
        for (int tape : tapes) {
            Due.is("37 tape " + tape, x.item(tape, 0, 9), NONE);
            Due.is("37 tape ahead of place", x.item(tape, -1, 9), NONE);
        }
        int[] places = {-1, 2, 3, 60, MIN, MAX};
        for (int i : places) {
            Due.is("37 place " + i, x.item(0, i, 9), PLACE);
            Due.is("37 nothing ahead of place", x.item(1, i, 9), NOTHING);
        }
        isRow("37 stays", x, 0, 4, 5);
        Due.is("37 the last", x.item(0, 1, 9), 1);
        isRow("37 becomes", x, 0, 4, 9);
    }

    private static void readsRefused() {
        ExemptBeauty x = new ExemptBeauty();
        write(x, 5, 3, 4, 5);
        int[] outside = {-1, 6, MIN, MAX};
        for (int tape : outside) {
            Due.is("38 tape " + tape, x.read(tape, 0), NO);
        }
        int[] places = {-1, 2, 60, MIN, MAX};
        for (int i : places) {
            Due.is("38 place " + i, x.read(5, i), NO);
            Due.is("38 nothing", x.read(4, i), NO);
        }
        Due.is("38 the first", x.read(5, 0), 4);
        Due.is("38 the last", x.read(5, 1), 5);
        Due.is("38 nothing", x.read(4, 0), NO);
    }

    // ---- shift

    private static void shiftEdges() {
        ExemptBeauty x = new ExemptBeauty();
        write(x, 0, 3, 1, 2, 3, 4, 5);
        write(x, 5, 3, 6, 7, 8);
        Due.is("39 none", x.shift(0, 0, 5, 0, 0), 0);
        Due.is("39 none, from the end", x.shift(0, 5, 5, 3, 0), 0);
        isRow("39 stays", x, 5, 6, 7, 8);
        Due.is("39 the last to the last", x.shift(0, 4, 5, 2, 1), 1);
        isRow("39 the last", x, 5, 6, 7, 5);
        Due.is("39 as many as the other has", x.shift(0, 0, 5, 0, 3), 3);
        isRow("39 the whole other", x, 5, 1, 2, 3);
        Due.is("39 the whole back, to its end", x.shift(5, 0, 0, 2, 3), 3);
        isRow("39 at the end", x, 0, 1, 2, 1, 2, 3);
        isRow("39 what gives stays", x, 5, 1, 2, 3);
        x.tape(1, 0, 60);
        x.tape(2, 0, 60);
        x.item(1, 59, -9);
        Due.is("39 sixty", x.shift(1, 0, 2, 0, 60), 60);
        Due.is("39 the sixtieth", x.read(2, 59), -9);
        Due.is("39 61", x.shift(1, 0, 2, 0, 61), PLACE);
        x.tape(3, 4, 0);
        x.tape(4, 4, 0);
        Due.is("39 nothing of nothing", x.shift(3, 0, 4, 0, 0), 0);
        Due.is("39 one of nothing", x.shift(3, 0, 4, 0, 1), PLACE);
        Due.is("39 beyond nothing", x.shift(3, 1, 4, 0, 0), PLACE);
    }

    private static void shiftOverItself() {
        for (int n = 0; n <= 5; n++) {
            for (int i = 0; i + n <= 5; i++) {
                for (int j = 0; j + n <= 5; j++) {
                    ExemptBeauty x = new ExemptBeauty();
                    long[] row = {1, 2, 3, 4, 5};
                    write(x, 1, 0, row);
                    long[] due = row.clone();
                    for (int k = 0; k < n; k++) {
                        due[j + k] = row[i + k];
                    }
                    Due.is("39 over itself", x.shift(1, i, 1, j, n), n);
                    isRow("39 as they were before: " + n + " from " + i + " to " + j, x, 1, due);
                }
            }
        }
    }

    private static void shiftRefused() {
        ExemptBeauty x = new ExemptBeauty();
        write(x, 0, 1, 1, 2, 3, 4, 5);
        write(x, 1, 1, 6, 7, 8);
        int[][] places = {{-1, 0, 0}, {0, -1, 0}, {0, 0, -1}, {6, 0, 0}, {0, 4, 0}, {5, 0, 1}, {0, 3, 1}, {3, 0, 3}, {0, 1, 3}, {0, 0, 4},
            {MAX, 0, 1}, {0, MAX, 1}, {0, 0, MAX}, {MAX, 0, MAX}, {0, MAX, MAX}, {MIN, 0, 1}, {0, MIN, 1}, {0, 0, MIN}, {MIN, 0, MIN},
            {1, 1, MAX}, {MAX, MAX, 2}, {-1, 0, 1}, {0, -1, 1}, {-2, -2, 3}};
        for (int[] p : places) {
            Due.is("39 " + p[2] + " from " + p[0] + " to " + p[1], x.shift(0, p[0], 1, p[1], p[2]), PLACE);
        }
        isRow("39 stays", x, 0, 1, 2, 3, 4, 5);
        isRow("39 stays", x, 1, 6, 7, 8);
        int[] tapes = {-1, 6, MIN, MAX};
        for (int tape : tapes) {
            Due.is("39 tape " + tape, x.shift(tape, 0, 0, 0, 1), NONE);
            Due.is("39 other " + tape, x.shift(0, 0, tape, 0, 1), NONE);
            Due.is("39 tape ahead of nothing", x.shift(tape, 0, 5, 0, 1), NONE);
            Due.is("39 other ahead of nothing", x.shift(5, 0, tape, 0, 1), NONE);
            Due.is("39 tape ahead of place", x.shift(tape, -1, 0, 0, 1), NONE);
        }
    }

    private static void shiftOfSorts() {
        ExemptBeauty x = new ExemptBeauty();
        for (int t = 0; t < 5; t++) {
            x.tape(t, t, 2);
        }
        for (int t = 0; t < 5; t++) {
            for (int other = 0; other < 5; other++) {
                Due.is("39 of sorts " + t + " and " + other, x.shift(t, 0, other, 0, 1), t == other ? 1 : CAST);
                Due.is("39 sort ahead of place", x.shift(t, -1, other, 0, 1), t == other ? PLACE : CAST);
                Due.is("39 sort ahead of n", x.shift(t, 0, other, 0, -1), t == other ? PLACE : CAST);
            }
            Due.is("39 nothing to take from", x.shift(5, 0, t, 0, 1), NOTHING);
            Due.is("39 nothing to come to", x.shift(t, 0, 5, 0, 1), NOTHING);
            Due.is("39 nothing ahead of place", x.shift(t, -1, 5, 0, 1), NOTHING);
        }
        Due.is("39 nothing at both", x.shift(5, 0, 5, 0, 0), NOTHING);
    }
}
