/**
 * Section 1 with promises 1 to 7, and how fine a part is: each bound one step inside and one step beyond, what is
 * there at first, and as many as there may be.
 */
public final class EdgesOfPeopleTest {
    private static final int NONE = -1, BAD = -2, STATE = -3, FULL = -4, NO_FACT = -1001;
    private static final int MIN = Integer.MIN_VALUE, MAX = Integer.MAX_VALUE;
    private static final long NO = Long.MIN_VALUE;
    /** Numbers that would wrap if something were added or taken off. */
    private static final int[] FAR = {MIN, MIN + 1, MIN + 10, -1000, 1000, MAX - 20, MAX - 1, MAX};
    /** At hour 4 GLOW is 0, at 5, too; at 18 it is 9. */
    private static final int DARK = 4, DARK_ODD = 5, BRIGHT = 18;

    public static void main(String[] args) {
        nobodyYet();
        nobodyToAsk();
        sixCome();
        kinds();
        numbersAndAges();
        newcomers();
        ofOutside();
        graces();
        gracesRefused();
        leaving();
        rows();
        rowsOfOtherKinds();
        hours();
        ages();
        yearsOfSix();
        graceLostAtForty();
        graceKept();
        graceLostOnce();
        glowGoesRound();
        thirdOfGlow();
        agesBy20();
        profileEdges();
        farmerAndToldEdges();
        youngEdges();
        letOffFromTasteOn();
        paysForEachPart();
        shownPart();
        Due.end();
    }

    private static ExemptBeauty town(int kind, int v, int age) {
        ExemptBeauty x = new ExemptBeauty();
        Due.is("2 person", x.person(kind, v, age), 0);
        return x;
    }

    // ---- nobody

    private static void nobodyYet() {
        ExemptBeauty x = new ExemptBeauty();
        for (int p : new int[] {0, 5, -1, MIN, MAX}) {
            Due.is("3 nobody", x.of(p, 0), NO_FACT);
            Due.is("4 nobody", x.grace(p, 0, 0), NONE);
            Due.is("5 nobody", x.leave(p, true), NONE);
            Due.is("6 nobody", x.row(p, 0, 0), NONE);
            Due.is("13 nobody", x.seenAt(p, 0), NONE);
            Due.is("14 nobody", x.when(p, 0), NONE);
            Due.is("14 nobody", x.when(p, 1), NONE);
            Due.is("16 nobody", x.jointly(p, p), NONE);
            Due.is("21 nobody", x.graces(p, 0, 0), NONE);
            Due.is("22 nobody", x.can(p, 0), NONE);
            Due.is("23 nobody", x.odds(p, 0, 0), NO);
            Due.is("25 nobody", x.plan(2, p), NONE);
            Due.is("32 nobody", x.act(p, 0, 1), 0);
            Due.is("34 nobody", x.taken(p, 0), -11);
        }
        for (int p : new int[] {0, 5, MIN, MAX}) {
            Due.is("19 nobody", x.see(p, 0, true, 0), NONE);
            Due.is("27 nobody", x.book(p, 0), NONE);
        }
        for (int p = 0; p < 6; p++) {
            Due.is("12 nobody", x.on(0, 10 + p), NONE);
            Due.is("12 nobody", x.on(0, 20 + p), NONE);
            Due.is("17 nobody", x.pairs(10 + p), NONE);
        }
    }

    private static void nobodyToAsk() {
        ExemptBeauty x = new ExemptBeauty();
        int[] told = {0, 12, 8, 18, 10, 3, 0};
        for (int what = 0; what <= 6; what++) {
            Due.is("1 told(" + what + ")", x.told(what), told[what]);
            Due.is("1 count(" + what + ")", x.count(what), 0);
        }
        Due.is("12 all of nobody", x.on(60, 0), 0);
        Due.is("15 how much", x.line(-1), 0);
        for (int k = 0; k < 6; k++) {
            Due.is("15 no " + k + "-th", x.line(k), -5);
        }
        Due.is("17 how much", x.pairs(0), 0);
        Due.is("18 nobody pays 0", x.raises(0), 0);
        Due.is("18 nobody pays 1", x.raises(1), -5);
        Due.is("20 no looks, no matter which", x.tastes(0), 61);
        Due.is("20 no looks, no matter which", x.tastes(1), 0);
        Due.is("24 nobody", x.mean(0, 0), NO);
        Due.is("24 nobody", x.mean(0, 1), NO);
        Due.is("26 nobody", x.ends(0), 0);
        Due.is("26 nobody", x.ends(1), 0);
        Due.is("19 no looks, though nobody is there", x.see(-1, -1, true, -1), 0);
        Due.is("25 no plan, though nobody is there", x.plan(-1, -1), 0);
        Due.is("27 no book, though nobody is there", x.book(-1, -1), 0);
        Due.is("28 nothing booked", x.looked(), -5);
        Due.is("29 none to look at", x.judge(0, 0), -5);
        Due.is("31 no image", x.undo(), STATE);
        Due.is("30 nobody", x.image(), 0);
        Due.is("31 nobody", x.undo(), 0);
        Due.is("33 nothing ran", x.trace(0), NONE);
    }

    // ---- who comes

    private static void sixCome() {
        ExemptBeauty x = new ExemptBeauty();
        for (int p = 0; p < 6; p++) {
            Due.is("3 nobody yet", x.of(p, 1), NO_FACT);
            Due.is("2 person " + p, x.person(0, p + 1, 10 * p), p);
            Due.is("35 so many", x.count(0), p + 1);
            Due.is("3 v", x.of(p, 1), p + 1);
            Due.is("3 age", x.of(p, 2), 10 * p);
        }
        Due.is("2 a seventh", x.person(0, 0, 0), FULL);
        Due.is("35 six", x.count(0), 6);
        Due.is("3 no seventh", x.of(6, 0), NO_FACT);
        Due.is("2 kind ahead of full", x.person(7, 0, 0), NONE);
        Due.is("2 v ahead of full", x.person(0, 10, 0), BAD);
        Due.is("2 age ahead of full", x.person(0, 0, 100), BAD);
    }

    private static void kinds() {
        ExemptBeauty x = new ExemptBeauty();
        for (int kind : FAR) {
            Due.is("2 kind " + kind, x.person(kind, 0, 0), NONE);
        }
        Due.is("2 kind -1", x.person(-1, 0, 0), NONE);
        Due.is("2 kind 7", x.person(7, 0, 0), NONE);
        Due.is("2 kind ahead of v", x.person(7, 10, 0), NONE);
        Due.is("2 kind ahead of age", x.person(-1, 0, 100), NONE);
        Due.is("35 nobody came", x.count(0), 0);
        for (int kind = 0; kind <= 6; kind++) {
            Due.is("3 kind", town(kind, 0, 0).of(0, 0), kind);
        }
    }

    private static void numbersAndAges() {
        ExemptBeauty x = new ExemptBeauty();
        for (int n : FAR) {
            Due.is("2 v " + n, x.person(0, n, 0), BAD);
            Due.is("2 age " + n, x.person(0, 0, n), BAD);
        }
        Due.is("2 v -1", x.person(6, -1, 0), BAD);
        Due.is("2 v 10", x.person(6, 10, 0), BAD);
        Due.is("2 age -1", x.person(6, 0, -1), BAD);
        Due.is("2 age 100", x.person(6, 0, 100), BAD);
        Due.is("35 nobody came", x.count(0), 0);
        for (int v = 0; v <= 9; v++) {
            Due.is("3 v", town(0, v, 0).of(0, 1), v);
        }
        for (int age = 0; age <= 99; age++) {
            Due.is("3 age", town(0, 0, age).of(0, 2), age);
        }
    }

    /** GRACE v at first, not LEFT, a ROW of 0. */
    private static void newcomers() {
        for (int kind = 0; kind <= 6; kind++) {
            for (int v = 0; v <= 9; v += 3) {
                ExemptBeauty x = town(kind, v, 50);
                for (int part = 0; part < 6; part++) {
                    Due.is("3 grace at first", x.of(0, 10 + part), v);
                    Due.is("3 liking without clauses", x.of(0, 30 + part), 0);
                }
                Due.is("3 not left at first", x.of(0, 3), 0);
                for (int k = 0; k < 4; k++) {
                    Due.is("6 row at first", x.row(0, k, 0), kind == 6 ? 0 : STATE);
                }
            }
        }
    }

    private static void ofOutside() {
        ExemptBeauty x = town(0, 4, 0);
        int[] outside = {-1, 7, 8, 9, 16, 17, 18, 19, 26, 27, 28, 29, 36, 37, 40};
        for (int what : outside) {
            Due.is("3 of " + what, x.of(0, what), NO_FACT);
        }
        for (int what : FAR) {
            Due.is("3 of " + what, x.of(0, what), NO_FACT);
            Due.is("3 of " + what, x.of(what, 0), NO_FACT);
        }
        int[] inside = {0, 6, 10, 15, 20, 25, 30, 35};
        int[] due = {0, 0, 4, 4, 5, 5, 0, 0};
        for (int k = 0; k < inside.length; k++) {
            Due.is("3 of " + inside[k], x.of(0, inside[k]), due[k]);
        }
    }

    // ---- what becomes otherwise

    private static void graces() {
        for (int part = 0; part < 6; part++) {
            ExemptBeauty x = town(0, 5, 0);
            x.person(0, 5, 0);
            int was = 5;
            for (int n = 0; n <= 9; n++) {
                Due.is("4 what it was", x.grace(0, part, n), was);
                was = n;
            }
            for (int other = 0; other < 6; other++) {
                Due.is("4 of part " + other, x.of(0, 10 + other), other == part ? 9 : 5);
                Due.is("4 of another one", x.of(1, 10 + other), 5);
            }
            Due.is("4 v stays", x.of(0, 1), 5);
        }
    }

    private static void gracesRefused() {
        ExemptBeauty x = town(0, 5, 0);
        int[] parts = {-1, 6, 7};
        for (int part : parts) {
            Due.is("4 part " + part, x.grace(0, part, 0), NONE);
            Due.is("4 part ahead of n", x.grace(0, part, 10), NONE);
        }
        for (int far : FAR) {
            Due.is("4 part " + far, x.grace(0, far, 0), NONE);
            Due.is("4 n " + far, x.grace(0, 0, far), BAD);
        }
        Due.is("4 n -1", x.grace(0, 5, -1), BAD);
        Due.is("4 n 10", x.grace(0, 5, 10), BAD);
        Due.is("4 person", x.grace(1, 0, 0), NONE);
        Due.is("4 person", x.grace(-1, 0, 0), NONE);
        Due.is("4 person ahead of n", x.grace(1, 0, 10), NONE);
        for (int part = 0; part < 6; part++) {
            Due.is("4 as it was", x.of(0, 10 + part), 5);
        }
    }

    private static void leaving() {
        ExemptBeauty x = new ExemptBeauty();
        for (int p = 0; p < 6; p++) {
            x.person(0, 0, 0);
        }
        Due.is("5 had not", x.leave(5, false), 0);
        Due.is("5 had not", x.leave(5, true), 0);
        Due.is("5 had", x.leave(5, true), 1);
        for (int p = 0; p < 6; p++) {
            Due.is("5 left " + p, x.of(p, 3), p == 5 ? 1 : 0);
            Due.is("3 pays " + p, x.of(p, 4), p == 5 ? 0 : 60);
        }
        Due.is("10 all", x.told(6), 300);
        Due.is("5 had", x.leave(5, false), 1);
        Due.is("5 pays again", x.of(5, 4), 60);
        Due.is("5 beyond", x.leave(6, true), NONE);
        Due.is("5 beyond", x.leave(-1, true), NONE);
        for (int p : FAR) {
            Due.is("5 far", x.leave(p, true), NONE);
        }
        Due.is("10 nobody left", x.told(6), 360);
    }

    private static void rows() {
        int[][] at = {{0, 4}, {1, 5}, {2}, {3}};
        for (int k = 0; k < 4; k++) {
            ExemptBeauty x = town(6, 0, 0);
            int was = 0;
            for (int n = 0; n <= 9; n++) {
                Due.is("6 what it was", x.row(0, k, n), was);
                was = n;
            }
            Due.is("6 n -1", x.row(0, k, -1), BAD);
            Due.is("6 n 10", x.row(0, k, 10), BAD);
            x.hour(DARK);
            int[] fine = {0, 5, 0, 0, 0, 0};
            for (int part : at[k]) {
                fine[part] += 9;
            }
            for (int part = 0; part < 6; part++) {
                Due.is("6 row " + k + " at part " + part, x.of(0, 20 + part), fine[part]);
            }
        }
        ExemptBeauty x = town(6, 0, 0);
        int[] beyond = {-1, 4, 5, MIN, MAX};
        for (int k : beyond) {
            Due.is("6 k " + k, x.row(0, k, 0), NONE);
            Due.is("6 k ahead of n", x.row(0, k, 10), NONE);
        }
        for (int n : FAR) {
            Due.is("6 n " + n, x.row(0, 0, n), BAD);
        }
    }

    private static void rowsOfOtherKinds() {
        for (int kind = 0; kind < 6; kind++) {
            ExemptBeauty x = town(kind, 0, 0);
            Due.is("6 another kind", x.row(0, 0, 0), STATE);
            Due.is("6 another kind", x.row(0, 3, 9), STATE);
            Due.is("6 n ahead of kind", x.row(0, 0, 10), BAD);
            Due.is("6 k ahead of kind", x.row(0, 4, 0), NONE);
            Due.is("6 person ahead of n", x.row(1, 0, 10), NONE);
        }
    }

    private static void hours() {
        ExemptBeauty x = new ExemptBeauty();
        int was = 12;
        for (int h = 0; h < 24; h++) {
            Due.is("7 what it was", x.hour(h), was);
            Due.is("10 hour", x.told(1), h);
            was = h;
        }
        Due.is("7 -1", x.hour(-1), BAD);
        Due.is("7 24", x.hour(24), BAD);
        for (int far : FAR) {
            Due.is("7 far", x.hour(far), BAD);
        }
        Due.is("7 stays", x.told(1), 23);
    }

    // ---- years

    private static void ages() {
        int[] ages = {0, 1, 38, 39, 40, 97, 98, 99};
        int[][] behind = {{0, 1, 2}, {1, 2, 3}, {38, 39, 40}, {39, 40, 41}, {40, 41, 42}, {97, 98, 99}, {98, 99, 99}, {99, 99, 99}};
        for (int a = 0; a < ages.length; a++) {
            for (int n = 0; n <= 2; n++) {
                ExemptBeauty x = town(0, 0, ages[a]);
                Due.is("11 year", x.pass(n), n);
                Due.is("11 age of " + ages[a] + " behind " + n, x.of(0, 2), behind[a][n]);
            }
            ExemptBeauty y = town(0, 0, ages[a]);
            y.leave(0, true);
            y.pass(60);
            Due.is("11 age of all, also who left", y.of(0, 2), ages[a] < 39 ? ages[a] + 60 : 99);
        }
    }

    private static void yearsOfSix() {
        ExemptBeauty x = new ExemptBeauty();
        for (int p = 0; p < 6; p++) {
            x.person(p, p, 34 + p);
        }
        x.leave(0, true);
        Due.is("11 six people", x.pass(2), 2);
        for (int p = 0; p < 6; p++) {
            Due.is("11 age of " + p, x.of(p, 2), 36 + p);
            Due.is("11 grace of " + p, x.of(p, 10 + p), p == 4 || p == 5 ? 0 : p);
        }
        Due.is("11 six people", x.pass(60), 62);
        for (int p = 0; p < 6; p++) {
            Due.is("11 age of " + p, x.of(p, 2), 96 + p > 99 ? 99 : 96 + p);
            Due.is("11 grace of " + p, x.of(p, 10 + p), 0);
            Due.is("11 grace of another part", x.of(p, 15 - p), p);
        }
    }

    /** v modulo 6: 6 to 9 lose parts 0 to 3. */
    private static void graceLostAtForty() {
        int[] lost = {0, 1, 2, 3, 4, 5, 0, 1, 2, 3};
        for (int v = 0; v <= 9; v++) {
            ExemptBeauty x = town(v % 7, v, 39);
            for (int part = 0; part < 6; part++) {
                x.grace(0, part, 7);
            }
            x.pass(1);
            for (int part = 0; part < 6; part++) {
                Due.is("11 v " + v + " part " + part, x.of(0, 10 + part), part == lost[v] ? 0 : 7);
            }
        }
    }

    private static void graceKept() {
        int[] ages = {38, 39, 40, 41, 99, 0, 0, 1, 37};
        int[] years = {1, 0, 60, 1, 60, 39, 40, 39, 2};
        boolean[] isLost = {false, false, false, false, false, false, true, true, false};
        for (int k = 0; k < ages.length; k++) {
            ExemptBeauty x = town(1, 5, ages[k]);
            x.pass(years[k]);
            Due.is("11 grace of one of " + ages[k] + " behind " + years[k], x.of(0, 15), isLost[k] ? 0 : 5);
            Due.is("11 another part", x.of(0, 14), 5);
        }
    }

    private static void graceLostOnce() {
        ExemptBeauty x = town(0, 4, 38);
        x.leave(0, true);
        x.pass(1);
        Due.is("11 not at 39", x.of(0, 14), 4);
        x.pass(1);
        Due.is("11 at 40, though it left", x.of(0, 14), 0);
        x.grace(0, 4, 9);
        x.pass(1);
        x.pass(60);
        Due.is("11 not again", x.of(0, 14), 9);
    }

    // ---- light

    /** The way round is taken step by step here, not by a number. */
    private static int glow(int light, int hour) {
        int forth = 0;
        for (int h = light; h != hour; h = h == 23 ? 0 : h + 1) {
            forth++;
        }
        int back = 0;
        for (int h = light; h != hour; h = h == 0 ? 23 : h - 1) {
            back++;
        }
        int far = forth < back ? forth : back;
        return far > 9 ? 0 : 9 - far;
    }

    private static void glowGoesRound() {
        for (int light = 0; light < 24; light++) {
            ExemptBeauty x = new ExemptBeauty();
            Due.office(x, "light " + light);
            for (int h = 0; h < 24; h++) {
                x.hour(h);
                Due.is("10 glow at " + h + " by light " + light, x.told(5), glow(light, h));
            }
        }
        Due.is("as told: 23 and 0 are 1 apart", glow(23, 0), 8);
        Due.is("as told: 0 and 23 are 1 apart", glow(0, 23), 8);
        Due.is("9 apart", glow(18, 3), 0);
        Due.is("8 apart", glow(18, 2), 1);
        Due.is("12 apart", glow(18, 6), 0);
    }

    private static void thirdOfGlow() {
        int[] third = {1, 0, 0, 0, 0, 0, 0, 0, 0, 0, 0, 0, 1, 1, 1, 2, 2, 2, 3, 2, 2, 2, 1, 1};
        int[] lit = {0, 1, 3};
        for (int kind : lit) {
            ExemptBeauty x = town(kind, 2, 0);
            for (int h = 0; h < 24; h++) {
                x.hour(h);
                Due.is("3 fine at " + h + " of kind " + kind, x.of(0, 25), 2 + third[h]);
            }
        }
        ExemptBeauty statue = town(4, 2, 0);
        for (int h = 0; h < 24; h++) {
            statue.hour(h);
            Due.is("3 a statue needs no light", statue.of(0, 25), 2);
        }
    }

    // ---- kinds

    private static void agesBy20() {
        int[] ages = {0, 19, 20, 39, 40, 59, 60, 79, 80, 99};
        int[] less = {0, 0, 1, 1, 2, 2, 3, 3, 4, 4};
        for (int k = 0; k < ages.length; k++) {
            for (int kind = 0; kind <= 6; kind++) {
                ExemptBeauty x = town(kind, 1, ages[k]);
                x.hour(DARK_ODD);
                boolean fades = kind == 1 || kind == 4;
                int young = kind == 5 && ages[k] < 20 ? 1 : 0;
                Due.is("3 fine of kind " + kind + " aged " + ages[k], x.of(0, 23), 1 + young - (fades ? less[k] : 0));
            }
        }
        ExemptBeauty x = town(1, 0, 99);
        x.hour(DARK);
        Due.is("3 fine below 0", x.of(0, 20), -4);
        Due.is("3 fine below 0 shows", x.of(0, 6), 0);
    }

    private static void profileEdges() {
        int[] kinds = {2, 5};
        for (int kind : kinds) {
            ExemptBeauty x = town(kind, 4, 20);
            for (int h = 0; h < 24; h++) {
                x.hour(h);
                int plain = x.of(0, 25);
                for (int part = 0; part < 5; part++) {
                    Due.is("3 profile at " + h + " of part " + part, x.of(0, 20 + part), h % 2 == 0 && part <= 2 ? plain + 3 : plain);
                }
            }
            x.hour(DARK);
            Due.is("3 part 2 at an even hour", x.of(0, 22), 7);
            Due.is("3 part 3 at an even hour", x.of(0, 23), 4);
            x.hour(DARK_ODD);
            Due.is("3 part 2 at an odd hour", x.of(0, 22), 4);
            x.hour(0);
            Due.is("3 hour 0 is even", x.of(0, 20), 8);
            x.hour(23);
            Due.is("3 hour 23 is not", x.of(0, 20), 5);
        }
    }

    private static void farmerAndToldEdges() {
        int[] kinds = {3, 6};
        for (int kind : kinds) {
            ExemptBeauty x = town(kind, 1, 99);
            x.hour(DARK);
            int[] due = {1, 6, 1, 1, 1, 1};
            for (int part = 0; part < 6; part++) {
                Due.is("3 hands of kind " + kind + " at " + part, x.of(0, 20 + part), due[part]);
            }
        }
        ExemptBeauty x = town(6, 1, 0);
        x.hour(BRIGHT);
        for (int k = 0; k < 4; k++) {
            x.row(0, k, k + 6);
        }
        int[] due = {10, 16, 12, 13, 10, 11};
        for (int part = 0; part < 6; part++) {
            Due.is("3 told at " + part, x.of(0, 20 + part), due[part]);
        }
    }

    private static void youngEdges() {
        int[] ages = {0, 18, 19, 20, 21, 99};
        for (int age : ages) {
            for (int v = 0; v <= 9; v += 9) {
                ExemptBeauty x = town(5, v, age);
                x.hour(DARK_ODD);
                Due.is("3 young of " + age + ", v " + v, x.of(0, 20), age <= 19 ? v + v : v);
            }
        }
        ExemptBeauty x = town(5, 3, 19);
        x.hour(DARK_ODD);
        Due.is("3 young still", x.of(0, 20), 6);
        x.pass(1);
        Due.is("3 young no more", x.of(0, 20), 3);
    }

    // ---- let off

    private static void letOffFromTasteOn() {
        ExemptBeauty x = town(0, 0, 0);
        x.hour(DARK);
        for (int n = 0; n <= 9; n++) {
            x.grace(0, 3, n);
            Due.is("3 let off by grace " + n, x.of(0, 5), n >= 8 ? 8 : 0);
            Due.is("3 pays by grace " + n, x.of(0, 4), n >= 8 ? 50 : 60);
        }
        Due.office(x, "taste 0");
        x.grace(0, 3, 0);
        Due.is("3 0 is not below 0", x.of(0, 5), 63);
        Due.office(x, "taste 0;mind 1 t=3");
        Due.is("3 -1 is", x.of(0, 5), 63 - 8);
        Due.office(x, "taste 99;like 99 t=3");
        Due.is("3 99 is not below 99", x.of(0, 5), 8);
        Due.office(x, "taste 99;like 98 t=3");
        Due.is("3 98 is", x.of(0, 5), 0);
    }

    private static void paysForEachPart() {
        for (int many = 0; many <= 6; many++) {
            ExemptBeauty x = town(0, 0, 0);
            for (int part = 0; part < many; part++) {
                x.grace(0, 5 - part, 9);
            }
            Due.is("3 let off " + many, x.of(0, 5), 63 & ~(63 >> many));
            Due.is("3 pays with " + many + " let off", x.of(0, 4), 60 - 10 * many);
            Due.office(x, "rate 99");
            Due.is("3 pays by the highest rate", x.of(0, 4), 594 - 99 * many);
            Due.office(x, "rate 0");
            Due.is("3 pays by rate 0", x.of(0, 4), 0);
        }
        ExemptBeauty x = new ExemptBeauty();
        for (int p = 0; p < 6; p++) {
            x.person(0, 0, 0);
        }
        Due.office(x, "rate 99");
        Due.is("10 the most that all can pay", x.told(6), 3564);
    }

    private static void shownPart() {
        for (int part = 0; part < 6; part++) {
            ExemptBeauty x = town(0, 5, 0);
            x.hour(DARK);
            x.grace(0, part, 7);
            Due.is("3 show, just below", x.of(0, 6), part);
            x.grace(0, part, 8);
            Due.is("3 show, of several the first", x.of(0, 6), part == 0 ? 1 : 0);
            x.grace(0, part, 4);
            Due.is("3 show, of several the first", x.of(0, 6), part == 0 ? 1 : 0);
        }
        ExemptBeauty x = town(0, 8, 0);
        x.hour(DARK);
        Due.is("3 nothing to show", x.of(0, 6), -5);
        x.leave(0, true);
        x.grace(0, 5, 0);
        Due.is("3 show of one who left", x.of(0, 6), 5);
        Due.office(x, "mind 99 p=0;mind 99 p=0;like 1 t=4;taste 99");
        Due.is("3 show far below", x.of(0, 6), 4);
    }
}
