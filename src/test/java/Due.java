/** Compares answers with those that are due, and counts the wrong ones. */
final class Due {
    private static int wrong = 0;
    private static int looked = 0;

    private Due() {
    }

    static void is(String call, long got, long want) {
        looked++;
        if (got != want) {
            wrong++;
            if (wrong <= 50) {
                System.out.println(call + " answered " + got + ", due is " + want);
            }
        }
    }

    static void holds(String what, boolean is) {
        looked++;
        if (!is) {
            wrong++;
            System.out.println("does not hold: " + what);
        }
    }

    static int wrongSoFar() {
        return wrong;
    }

    /** Feeds a text and makes an office of it: what office() answered. */
    static int office(ExemptBeauty x, String text) {
        for (int i = 0; i < text.length(); i++) {
            is("feed(" + (int) text.charAt(i) + ") of " + text, x.feed(text.charAt(i)), i + 1);
        }
        return x.office();
    }

    static void end() {
        System.out.println(looked + " answers looked at, " + wrong + " wrong");
        if (wrong != 0) {
            System.exit(1);
        }
    }
}
