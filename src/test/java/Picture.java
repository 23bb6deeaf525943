import java.util.Arrays;

/** All that can be seen of an object, call by call: of two objects that stand alike the pictures are alike. */
final class Picture {
    /** What can be done with an object. */
    interface Calls {
        void on(ExemptBeauty x);
    }

    /** Behind a picture (some 300 calls) nothing more is asked of the object: an object is good for 512. */
    private static final int MOST = 340;
    private final long[] seen = new long[MOST];
    private int many = 0;

    private Picture() {
    }

    static long[] of(ExemptBeauty x) {
        Picture it = new Picture();
        it.people(x);
        it.questions(x);
        it.tapes(x);
        it.textAndImage(x);
        return Arrays.copyOf(it.seen, it.many);
    }

    /** Two objects stand alike: the one behind some calls, the other behind those and some more. */
    static void isSame(String what, Calls before, Calls more) {
        ExemptBeauty one = new ExemptBeauty();
        before.on(one);
        ExemptBeauty other = new ExemptBeauty();
        before.on(other);
        more.on(other);
        Due.holds(what, Arrays.equals(of(one), of(other)));
    }

    /** A picture is of no use that does not tell what has changed. */
    static void isOther(String what, Calls before, Calls more) {
        ExemptBeauty one = new ExemptBeauty();
        before.on(one);
        ExemptBeauty other = new ExemptBeauty();
        before.on(other);
        more.on(other);
        Due.holds(what, !Arrays.equals(of(one), of(other)));
    }

    private void put(long answer) {
        seen[many] = answer;
        many++;
    }

    private void people(ExemptBeauty x) {
        for (int what = 0; what <= 6; what++) {
            put(x.count(what));
            put(x.told(what));
        }
        for (int p = 0; p < 6; p++) {
            for (int what = 0; what <= 6; what++) {
                put(x.of(p, what));
            }
            for (int part = 0; part < 6; part++) {
                put(x.of(p, 10 + part));
                put(x.of(p, 20 + part));
                put(x.of(p, 30 + part));
            }
            put(x.when(p, 0));
            put(x.when(p, 1));
        }
    }

    private void questions(ExemptBeauty x) {
        for (int k = -1; k < 6; k++) {
            put(x.line(k));
        }
        for (int what = 9; what < 16; what++) {
            put(x.pairs(what == 9 ? 0 : what));
        }
        put(x.on(20, 0));
        put(x.raises(100));
        put(x.tastes(0));
        put(x.tastes(1));
        put(x.graces(0, 0, 1));
        for (int p = 0; p < 6; p++) {
            put(x.can(p, 0));
        }
        put(x.ends(0));
        put(x.ends(1));
        put(x.looked());
        for (int i = 0; i < 13; i++) {
            put(x.trace(i));
        }
    }

    private void tapes(ExemptBeauty x) {
        for (int t = 0; t < 6; t++) {
            for (int i = 0; i < 5; i++) {
                put(x.read(t, i));
            }
            put(x.judge(t, 0));
            put(x.item(t, 0, 0x1234567891L));
            put(x.read(t, 0));
        }
    }

    private void textAndImage(ExemptBeauty x) {
        put(x.office());
        for (int what = 2; what < 5; what++) {
            put(x.told(what));
        }
        put(x.undo());
        for (int what = 0; what < 6; what++) {
            put(x.count(what));
            put(x.told(what));
        }
        for (int p = 0; p < 6; p++) {
            put(x.of(p, 4));
            put(x.of(p, 5));
        }
        put(x.ends(0));
        put(x.ends(1));
        put(x.looked());
        put(x.tastes(0));
        put(x.tastes(1));
    }
}
