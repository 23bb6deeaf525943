/**
 * Section 2, "all that follows is asked, goes on from how all is": whatever is asked is asked at each HOUR, of each
 * PERSON and PART, and none answers for another; acts with any x; what the image holds of the YEAR; long offices.
 */
public final class HowAllIsTest {
    private static final int MIN = Integer.MIN_VALUE, MAX = Integer.MAX_VALUE;
    /** At 5 people 0 and 1 have parts 0 to 2, 2 and 3 the others; at 2 people 0 and 2 have them, 1 and 3 the others. */
    private static final String HALVES = "like 9 h=5&(p<2&t<3|p>1&t>2)|h=2&(p=0&t<3|p=2&t<3|p=1&t>2|p=3&t>2);taste 9";
    /** The third of GLOW by hours, LIGHT being 18. */
    private static final int[] THIRD = {1, 0, 0, 0, 0, 0, 0, 0, 0, 0, 0, 0, 1, 1, 1, 2, 2, 2, 3, 2, 2, 2, 1, 1};
    /** Of 24 hours so many let a part off, by its GRACE: taste is 8, and a third of GLOW 0 to 3. */
    private static final int[] HOURS_BY_GRACE = {0, 0, 0, 0, 0, 1, 7, 13, 24, 24};

    public static void main(String[] args) {
        for (int h = 0; h < 24; h++) {
            paidAt(h);
            togetherAt(h);
            toldByHandAt(h);
            anyHour(h);
        }
        oddsOfEachPart();
        gracesOfEachPart();
        showOfEachPart();
        yearOfTheImage();
        actsByAnyX();
        longOffices();
        Due.end();
    }

    private static ExemptBeauty halves(int h) {
        ExemptBeauty x = new ExemptBeauty();
        for (int p = 0; p < 4; p++) {
            x.person(0, 0, 10 * p);
        }
        Due.is("9 office", Due.office(x, HALVES), 0);
        x.hour(h);
        return x;
    }

    private static int bits(int p, int h) {
        boolean isLow = h == 5 ? p < 2 : p % 2 == 0;
        return h != 5 && h != 2 ? 0 : isLow ? 0b000111 : 0b111000;
    }

    // ---- hours

    private static void paidAt(int h) {
        ExemptBeauty x = halves(h);
        boolean isHalf = h == 5 || h == 2;
        for (int p = 0; p < 4; p++) {
            int pays = isHalf ? 30 : 60;
            Due.is("3 pays at " + h, x.of(p, 4), pays);
            Due.is("12 pays at " + h, x.on(3, 10 + p), pays);
            Due.is("3 let off at " + h, x.of(p, 5), bits(p, h));
            Due.is("12 let off at " + h, x.on(3, 20 + p), bits(p, h));
            Due.is("3 show at " + h, x.of(p, 6), bits(p, h) == 0b000111 ? 3 : 0);
            for (int t = 0; t < 6; t++) {
                int liking = (bits(p, h) >> t & 1) * 9;
                Due.is("3 liking at " + h, x.of(p, 30 + t), liking);
                Due.is("3 fine at " + h, x.of(p, 20 + t), liking + THIRD[h]);
            }
        }
        Due.is("10 all at " + h, x.told(6), isHalf ? 120 : 240);
        Due.is("12 all at " + h, x.on(3, 0), isHalf ? 120 : 240);
        Due.is("26 all at " + h, x.ends(0), isHalf ? 120 : 240);
        Due.is("26 parts at " + h, x.ends(1), isHalf ? 12 : 0);
        Due.is("18 taste at " + h, x.raises(121), isHalf ? 10 : THIRD[h] + 1);
    }

    private static void togetherAt(int h) {
        ExemptBeauty x = halves(h);
        for (int p = 0; p < 4; p++) {
            for (int other = 0; other < 4; other++) {
                if (p != other) {
                    int paid = 60 - 10 * Integer.bitCount(bits(p, h) | bits(other, h));
                    Due.is("16 " + p + " and " + other + " at " + h, x.jointly(p, other), paid);
                }
            }
        }
        int[] partners = h == 5 ? new int[] {2, 3, 0, 1} : new int[] {1, 0, 3, 2};
        Due.is("17 how much at " + h, x.pairs(0), h == 5 || h == 2 ? 0 : 120);
        for (int p = 0; p < 4; p++) {
            Due.is("17 partner at " + h, x.pairs(10 + p), partners[p]);
        }
        int much = 0;
        for (int k = 0; k < 4; k++) {
            int at = (h + k) % 24;
            much += at == 5 || at == 2 ? 30 : 60;
            Due.is("15 the " + k + "-th from " + h, x.line(k), k);
        }
        Due.is("15 how much from " + h, x.line(-1), much);
    }

    private static void toldByHandAt(int h) {
        ExemptBeauty x = halves(h);
        x.see(1, 0, true, 3);
        Due.is("20 tastes at " + h, x.tastes(0), h == 5 ? 10 : THIRD[h] + 1);
        Due.is("21 graces at " + h, x.graces(1, 0, 0), h == 5 ? 10 : THIRD[h] + 1);
        Due.is("21 graces at " + h, x.graces(1, 0, 1), h == 5 ? 0 : 9 - THIRD[h]);
        Due.is("22 can at " + h, x.can(1, 0), h == 5 ? 10 : 0);
        Due.is("22 can at " + h, x.can(1, 1), h == 5 ? 0 : -5);
        for (int p = 0; p < 4; p++) {
            x.book(p, 30);
        }
        x.tape(3, 2, 5);
        for (int p = 0; p < 4; p++) {
            x.item(3, p + 1, 30);
        }
        Due.is("28 looked at " + h, x.looked(), h == 5 || h == 2 ? -5 : 0);
        Due.is("29 judged at " + h, x.judge(3, 1), h == 5 || h == 2 ? -5 : 0);
        x.plan(3, 0);
        Due.is("26 an hour later than " + h, x.ends(0), h == 4 || h == 1 ? 120 : 240);
        Due.is("26 an hour later than " + h, x.ends(1), h == 4 || h == 1 ? 12 : 0);
    }

    /** It does not matter which HOUR it is. */
    private static void anyHour(int h) {
        ExemptBeauty x = halves(h);
        for (int at = 0; at < 24; at++) {
            boolean isHalf = at == 5 || at == 2;
            Due.is("13 seen at " + at, x.seenAt(3, at), isHalf ? 30 : 60);
            Due.is("24 mean of " + at, x.mean(at, 0), isHalf ? 30 : 60);
            Due.is("24 mean of " + at, x.mean(at, 1), 1);
        }
        for (int p = 0; p < 4; p++) {
            Due.is("14 best", x.when(p, 0), 2);
            Due.is("14 rises", x.when(p, 1), -5);
            for (int t = 0; t < 6; t++) {
                int many = (bits(p, 5) >> t & 1) + (bits(p, 2) >> t & 1);
                Due.is("23 above", x.odds(p, t, 0), many == 0 ? 0 : 1);
                Due.is("23 below", x.odds(p, t, 1), many == 0 ? 1 : 24 / many);
            }
        }
        Due.is("10 the hour stays", x.told(1), h);
    }

    // ---- people and parts

    /** GRACE of each part of each person is another one. */
    private static ExemptBeauty mixed() {
        ExemptBeauty x = new ExemptBeauty();
        for (int p = 0; p < 6; p++) {
            x.person(0, 9 - p, 0);
        }
        for (int p = 0; p < 6; p++) {
            for (int t = 0; t < 6; t++) {
                x.grace(p, t, graceOf(p, t));
            }
        }
        return x;
    }

    private static int graceOf(int p, int t) {
        return (3 * p + 7 * t + 4) % 10;
    }

    private static void areGracesAsTheyWere(String behind, ExemptBeauty x) {
        for (int p = 0; p < 6; p++) {
            for (int t = 0; t < 6; t++) {
                Due.is("3 grace of " + p + " at " + t + " behind " + behind, x.of(p, 10 + t), graceOf(p, t));
            }
            Due.is("3 v of " + p + " behind " + behind, x.of(p, 1), 9 - p);
        }
    }

    private static void oddsOfEachPart() {
        ExemptBeauty x = mixed();
        for (int p = 0; p < 6; p++) {
            for (int t = 0; t < 6; t++) {
                int many = HOURS_BY_GRACE[graceOf(p, t)];
                Due.is("23 above, of " + p + " at " + t, x.odds(p, t, 0), many == 24 ? 1 : many);
                Due.is("23 below, of " + p + " at " + t, x.odds(p, t, 1), many == 24 || many == 0 ? 1 : 24);
            }
        }
        areGracesAsTheyWere("odds", x);
    }

    private static void gracesOfEachPart() {
        for (int p = 0; p < 6; p++) {
            for (int t = 0; t < 6; t++) {
                ExemptBeauty x = mixed();
                x.see(p, t, graceOf(p, t) < 7, 2);
                for (int part = 0; part < 6; part++) {
                    // at 12 it is let off by GRACE 7 to 9; what is told is otherwise than it is
                    Due.is("21 how many", x.graces(p, part, 0), part != t ? 0 : graceOf(p, t) < 7 ? 3 : 7);
                    Due.is("21 the least", x.graces(p, part, 1), part != t ? -5 : graceOf(p, t) < 7 ? 7 : 0);
                    Due.is("21 of another one", x.graces((p + 1) % 6, part, 0), 0);
                }
                areGracesAsTheyWere("graces", x);
                Due.is("22 none by its v", x.can(p, 0), 0);
                areGracesAsTheyWere("can", x);
            }
        }
    }

    private static void showOfEachPart() {
        ExemptBeauty x = mixed();
        for (int p = 0; p < 6; p++) {
            int show = -5;
            for (int grace = 0; grace < 7; grace++) {
                for (int t = 5; t >= 0; t--) {
                    show = graceOf(p, t) == grace ? t : show;
                }
            }
            Due.is("3 show of " + p, x.of(p, 6), show);
        }
    }

    // ---- the image

    private static void yearOfTheImage() {
        for (int year = 0; year <= 60; year += 12) {
            ExemptBeauty x = mixed();
            x.pass(year);
            x.hour(year % 24);
            Due.is("30 people", x.image(), 6);
            x.pass(5);
            x.hour(23);
            Due.is("31 people", x.undo(), 6);
            Due.is("31 year", x.told(0), year);
            Due.is("31 hour", x.told(1), year % 24);
            Due.is("31 age", x.of(3, 2), year);
        }
    }

    // ---- acts

    private static int shows(int kind, int i, int v, int x) {
        switch (kind) {
            case 2: case 5: return x * 3 + i;
            case 4: return -(x + i);
            case 6: return (x + i) ^ v;
            default: return x + i;
        }
    }

    private static int pays(int kind, int i, int v, int x) {
        switch (kind) {
            case 1: return (x + i - v) ^ 6;
            case 4: return (-(x + 1 + i) - v) ^ 6;
            case 6: return ((x + i) ^ v) - v + 2 + i;
            default: return shows(kind, i, v, x) - v;
        }
    }

    private static int tells(int kind, int i, int v, int x) {
        switch (kind) {
            case 3: case 6: return pays(kind, i, v, x) * 2 + pays(kind, i, v, 1);
            case 5: return pays(kind, i, v, x - i) * 2;
            default: return pays(kind, i, v, x) * 2;
        }
    }

    /** By kind and act. */
    private static final int[][][] BODIES = {
        {{10}, {11, 10}, {12, 11, 10}},
        {{10}, {20, 11, 10}, {12, 20, 11, 10}},
        {{30, 10}, {11, 30, 10}, {12, 11, 30, 10}},
        {{10}, {11, 10}, {40, 12, 11, 10, 11, 10}},
        {{50, 10}, {51, 20, 11, 50, 10}, {12, 51, 20, 11, 50, 10}},
        {{30, 10}, {11, 30, 10}, {60, 12, 11, 30, 10}},
        {{71, 10}, {70, 11, 71, 10, 10}, {40, 12, 70, 11, 71, 10, 10, 70, 11, 71, 10, 10}}
    };

    private static void actsByAnyX() {
        int[] xs = {0, 1, -1, 7, 19, 20, 21, 39, 40, 41, 1000, -1000, MAX, MAX - 3, MIN, MIN + 3};
        for (int kind = 0; kind <= 6; kind++) {
            for (int i = 0; i < 6; i++) {
                int v = (kind + 3 * i) % 10;
                for (int by : xs) {
                    ExemptBeauty x = new ExemptBeauty();
                    for (int p = 0; p < i; p++) {
                        x.person(0, 0, 0);
                    }
                    x.person(kind, v, 0);
                    Due.is("32 shows, kind " + kind + " by " + by, x.act(i, 0, by), shows(kind, i, v, by));
                    isTrace(x, kind, 0);
                    Due.is("32 pays, kind " + kind + " by " + by, x.act(i, 1, by), pays(kind, i, v, by));
                    isTrace(x, kind, 1);
                    Due.is("32 tells, kind " + kind + " by " + by, x.act(i, 2, by), tells(kind, i, v, by));
                    isTrace(x, kind, 2);
                }
            }
        }
    }

    private static void isTrace(ExemptBeauty x, int kind, int act) {
        int[] bodies = BODIES[kind][act];
        Due.is("35 bodies that ran", x.count(6), bodies.length);
        for (int b = 0; b < bodies.length; b++) {
            Due.is("33 body " + b + " of kind " + kind, x.trace(b), bodies[b]);
        }
        Due.is("33 no more", x.trace(bodies.length), -1);
    }

    // ---- offices

    private static void longOffices() {
        String[] texts = {
            "like 1 p=1|p=1|p=1|p=1|p=1|((((p=0))))", "like 1 p=0&p=0&p=0&p=0&p=0&((((p=0))))", "like 1 p=1|p=1|p=1|p=1|p=1|!!!!p=0",
            "like 1 p=0&p=0&p=0&p=0&p=0&!!!!p=0", "like 1 (p=1|p=1|p=1|p=1|p=1|(((p=0))))", "like 1 (p=0&p=0&p=0&p=0&p=0&(((p=0))))"
        };
        for (String text : texts) {
            ExemptBeauty x = new ExemptBeauty();
            x.person(0, 0, 0);
            Due.is("9 office of " + text, Due.office(x, text), 0);
            Due.is("3 liking by " + text, x.of(0, 30), 1);
        }
        ExemptBeauty x = new ExemptBeauty();
        x.person(0, 0, 0);
        Due.office(x, "like 1 t=0|t=0|t=0|t=0|t=0|t=0|t=0;like 2 t=0;like 4 t=1|t=0;mind 16 t=1;like 32 t<9");
        int[] due = {1 + 2 + 4 + 32, 4 - 16 + 32, 32, 32, 32, 32};
        for (int t = 0; t < 6; t++) {
            Due.is("3 liking of all clauses, at " + t, x.of(0, 30 + t), due[t]);
        }
        ExemptBeauty y = new ExemptBeauty();
        y.person(0, 0, 0);
        Due.office(y, "like 1 t=0;like 2 t=1;like 4 t=2;like 8 t=3;like 16 t=4;like 32 t=5;like 64 p=0;mind 3 h=3");
        for (int t = 0; t < 6; t++) {
            Due.is("3 liking of eight clauses, at " + t, y.of(0, 30 + t), 64 + (1 << t));
        }
    }
}
