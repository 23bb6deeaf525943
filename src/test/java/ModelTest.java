import java.util.Random;

/** Random runs of 512 calls on the program and on the model: all answers must be alike. */
public final class ModelTest {
    private static final int[] FAR = {Integer.MIN_VALUE, Integer.MIN_VALUE + 1, -1000, -2, -1, 99, 100, 1000, 9999, 10000,
        Integer.MAX_VALUE - 1, Integer.MAX_VALUE};
    /** Behind this many a run makes its last one, which may be a bundle of calls; an object is good for 512. */
    private static final int MOST = 400;
    private final Random random;
    private final ExemptBeauty x = new ExemptBeauty();
    private final Model m = new Model();
    private final int run;
    private final int wildness;
    private int made = 0;
    private final StringBuilder calls = new StringBuilder();

    private ModelTest(int run) {
        this.run = run;
        this.random = new Random(run);
        this.wildness = run % 5 == 0 ? 6 : 25;
    }

    public static void main(String[] args) {
        int runs = args.length > 1 ? Integer.parseInt(args[1]) : 250;
        for (int run = 0; run < runs; run++) {
            new ModelTest(run).go();
        }
        for (int seed = 0; seed < 20000; seed++) {
            faultOf(new Random(seed));
        }
        Due.end();
    }

    private static void faultOf(Random random) {
        ExemptBeauty x = new ExemptBeauty();
        Model m = new Model();
        String text = Texts.broken(random, Texts.office(random));
        for (int i = 0; i < text.length(); i++) {
            x.feed(text.charAt(i));
            m.feed(text.charAt(i));
        }
        Due.is("office of '" + text + "'", x.office(), m.office());
    }

    private void go() {
        int people = random.nextInt(7);
        for (int p = 0; p < people; p++) {
            person();
        }
        if (random.nextBoolean()) {
            office();
        }
        while (made < MOST) {
            int before = Due.wrongSoFar();
            call(random.nextInt(48));
            if (Due.wrongSoFar() > before) {
                System.out.println("run " + run + ":" + calls);
                return;
            }
        }
    }

    /** Mostly 0 to most, sometimes one beyond, seldom far off. */
    private int n(int most) {
        int r = random.nextInt(wildness);
        if (r == 0) {
            return random.nextBoolean() ? -1 : most + 1;
        }
        if (r == 1 && random.nextInt(3) == 0) {
            return FAR[random.nextInt(FAR.length)];
        }
        return random.nextInt(most + 1);
    }

    private int one() {
        return m.count(0) == 0 ? n(5) : n(m.count(0) - 1);
    }

    private void is(String call, long got, long want) {
        made++;
        calls.append("\n  ").append(call).append(" -> ").append(want);
        Due.is("run " + run + ": " + call, got, want);
    }

    private void person() {
        int kind = n(6);
        int v = n(9);
        int age = random.nextInt(3) == 0 ? 30 + random.nextInt(15) : n(99);
        is("person(" + kind + ", " + v + ", " + age + ")", x.person(kind, v, age), m.person(kind, v, age));
    }

    private void office() {
        String text = Texts.office(random);
        if (random.nextInt(4) == 0) {
            text = Texts.broken(random, text);
        }
        for (int i = 0; i < text.length(); i++) {
            is("feed(" + (int) text.charAt(i) + ")", x.feed(text.charAt(i)), m.feed(text.charAt(i)));
        }
        is("office()", x.office(), m.office());
    }

    private void call(int which) {
        if (which < 12) {
            change(which);
        } else if (which < 32) {
            ask(which);
        } else {
            rest(which);
        }
    }

    private void change(int which) {
        int a = one(), b = n(5), c = n(9), d = n(3);
        boolean is = random.nextBoolean();
        switch (which) {
            case 0: person(); break;
            case 1: is("grace(" + a + ", " + b + ", " + c + ")", x.grace(a, b, c), m.grace(a, b, c)); break;
            case 2: is("leave(" + a + ", " + is + ")", x.leave(a, is), m.leave(a, is)); break;
            case 3: is("row(" + a + ", " + d + ", " + c + ")", x.row(a, d, c), m.row(a, d, c)); break;
            case 4: hour(n(23)); break;
            case 5: feed(n(127)); break;
            case 6:
                if (random.nextInt(6) == 0) {
                    office();
                }
                break;
            case 7: pass(random.nextInt(3) == 0 ? n(60) : n(5)); break;
            case 8: is("image()", x.image(), m.image()); break;
            case 9: is("undo()", x.undo(), m.undo()); break;
            default: everything(); break;
        }
    }

    private void hour(int n) {
        is("hour(" + n + ")", x.hour(n), m.hour(n));
    }

    private void feed(int n) {
        is("feed(" + n + ")", x.feed(n), m.feed(n));
    }

    private void pass(int n) {
        is("pass(" + n + ")", x.pass(n), m.pass(n));
    }

    /** What can be seen from outside of a person and of all. */
    private void everything() {
        int p = one();
        for (int what = 0; what <= 35; what++) {
            is("of(" + p + ", " + what + ")", x.of(p, what), m.of(p, what));
        }
        for (int what = 0; what <= 6; what++) {
            is("told(" + what + ")", x.told(what), m.told(what));
            is("count(" + what + ")", x.count(what), m.count(what));
        }
    }

    private void ask(int which) {
        int a = one(), b = one(), c = n(1), d = n(5), e = n(60), f = n(23);
        int g = random.nextInt(3) * 10 + one();
        int h = random.nextInt(4) == 0 ? n(9999) : n(400);
        switch (which) {
            case 12: is("told(" + d + ")", x.told(d), m.told(d)); break;
            case 13: case 14: is("on(" + e + ", " + g + ")", x.on(e, g), m.on(e, g)); break;
            case 15: is("seenAt(" + a + ", " + f + ")", x.seenAt(a, f), m.seenAt(a, f)); break;
            case 16: case 17: is("when(" + a + ", " + c + ")", x.when(a, c), m.when(a, c)); break;
            case 18: case 19: is("line(" + (d - 1) + ")", x.line(d - 1), m.line(d - 1)); break;
            case 20: is("jointly(" + a + ", " + b + ")", x.jointly(a, b), m.jointly(a, b)); break;
            case 21: case 22: is("pairs(" + g + ")", x.pairs(g), m.pairs(g)); break;
            case 23: is("raises(" + h + ")", x.raises(h), m.raises(h)); break;
            case 24: is("tastes(" + c + ")", x.tastes(c), m.tastes(c)); break;
            case 25: is("graces(" + a + ", " + d + ", " + c + ")", x.graces(a, d, c), m.graces(a, d, c)); break;
            case 26: is("can(" + a + ", " + c + ")", x.can(a, c), m.can(a, c)); break;
            case 27: is("odds(" + a + ", " + d + ", " + c + ")", x.odds(a, d, c), m.odds(a, d, c)); break;
            case 28: is("mean(" + f + ", " + c + ")", x.mean(f, c), m.mean(f, c)); break;
            case 29: is("ends(" + c + ")", x.ends(c), m.ends(c)); break;
            case 30: is("looked()", x.looked(), m.looked()); break;
            default: is("of(" + a + ", 6)", x.of(a, 6), m.of(a, 6)); break;
        }
    }

    private void rest(int which) {
        int a = one(), b = n(5), c = n(6), d = n(9), e = n(8), f = n(20);
        int g = random.nextInt(5) == 0 ? random.nextInt() : n(60);
        switch (which) {
            case 32: case 33: case 34: see(); break;
            case 35: case 36: case 37: plan(); break;
            case 38: case 39: book(); break;
            case 40: is("judge(" + b + ", " + d + ")", x.judge(b, d), m.judge(b, d)); break;
            case 41: writePays(); break;
            case 42: act(a, n(2), g); break;
            case 43: is("taken(" + a + ", " + c + ")", x.taken(a, c), m.taken(a, c)); break;
            case 44: is("tape(" + b + ", " + (c - 1) + ", " + d + ")", x.tape(b, c - 1, d), m.tape(b, c - 1, d)); break;
            case 45: item(b, d, random.nextInt(3) == 0 ? random.nextLong() : g); break;
            case 46: is("read(" + b + ", " + d + ")", x.read(b, d), m.read(b, d)); break;
            default: shift(b, d, n(5), e, random.nextInt(3) == 0 ? f : n(4)); break;
        }
    }

    private void see() {
        int a = random.nextInt(8) == 0 ? -1 : one();
        int b = n(5);
        int n = n(20);
        boolean is = random.nextBoolean();
        // mostly what will be so, that not all is impossible
        if (m.on(n, 20 + a) >= 0 && b >= 0 && b < 6 && random.nextInt(4) > 0) {
            is = (m.on(n, 20 + a) >> b & 1) == 1;
        }
        is("see(" + a + ", " + b + ", " + is + ", " + n + ")", x.see(a, b, is, n), m.see(a, b, is, n));
    }

    private void plan() {
        int what = random.nextInt(12) == 0 ? -1 : n(3);
        int n = what == 2 ? one() : n(23);
        is("plan(" + what + ", " + n + ")", x.plan(what, n), m.plan(what, n));
    }

    private void book() {
        int a = random.nextInt(10) == 0 ? -1 : one();
        int pays = random.nextInt(6) == 0 ? n(999) : m.seenAt(a, m.told(1));
        is("book(" + a + ", " + pays + ")", x.book(a, pays), m.book(a, pays));
    }

    /** A row of what all pay now, so that judging comes far. */
    private void writePays() {
        int tape = random.nextInt(6);
        int from = random.nextInt(4);
        int n = random.nextInt(11);
        is("tape(" + tape + ", 2, " + n + ")", x.tape(tape, 2, n), m.tape(tape, 2, n));
        for (int p = 0; p < m.count(0); p++) {
            item(tape, from + p, m.of(p, 4));
        }
        is("judge(" + tape + ", " + from + ")", x.judge(tape, from), m.judge(tape, from));
    }

    private void item(int tape, int i, long v) {
        is("item(" + tape + ", " + i + ", " + v + ")", x.item(tape, i, v), m.item(tape, i, v));
        is("read(" + tape + ", " + i + ")", x.read(tape, i), m.read(tape, i));
    }

    private void act(int a, int act, int g) {
        is("act(" + a + ", " + act + ", " + g + ")", x.act(a, act, g), m.act(a, act, g));
        for (int i = -1; i < 21; i++) {
            is("trace(" + i + ")", x.trace(i), m.trace(i));
        }
        is("count(6)", x.count(6), m.count(6));
    }

    private void shift(int tape, int i, int other, int j, int n) {
        is("shift(" + tape + ", " + i + ", " + other + ", " + j + ", " + n + ")", x.shift(tape, i, other, j, n),
            m.shift(tape, i, other, j, n));
        for (int k = 0; k < 10; k++) {
            is("read(" + other + ", " + k + ")", x.read(other, k), m.read(other, k));
        }
    }
}
