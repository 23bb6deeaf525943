/** Promises 19 to 28: looks, odds, plans, books. */
public final class LooksPromisesTest {
    private static final int NONE = -1, BAD = -2, FULL = -4;
    private static final int MIN = Integer.MIN_VALUE, MAX = Integer.MAX_VALUE;
    private static final long NO = Long.MIN_VALUE;

    public static void main(String[] args) {
        see();
        tastes();
        graces();
        can();
        canByYears();
        odds();
        mean();
        plan();
        ends();
        endsByHours();
        book();
        looked();
        Due.end();
    }

    private static void see() {
        ExemptBeauty x = new ExemptBeauty();
        Due.is("19 nobody", x.see(0, 0, true, 0), NONE);
        x.person(0, 5, 0);
        Due.is("19 part", x.see(0, 6, true, 21), NONE);
        Due.is("19 part", x.see(0, -1, true, 0), NONE);
        Due.is("19 person", x.see(-2, 0, true, 0), NONE);
        Due.is("19 person", x.see(1, 0, true, 0), NONE);
        Due.is("19 years", x.see(0, 0, true, 21), BAD);
        Due.is("19 years", x.see(0, 0, true, -1), BAD);
        for (int k = 1; k <= 6; k++) {
            Due.is("19", x.see(0, k - 1, true, k == 6 ? 20 : k), k);
        }
        Due.is("19 full", x.see(0, 0, true, 0), FULL);
        Due.is("19 bad ahead of full", x.see(0, 0, true, 21), BAD);
        Due.is("19 none ahead of full", x.see(0, 6, true, 0), NONE);
        Due.is("19 six", x.count(2), 6);
        Due.is("19 none then", x.see(-1, 9, true, -9), 0);
        Due.is("19 none", x.count(2), 0);
        Due.is("19", x.see(0, 0, true, 0), 1);
    }

    private static void tastes() {
        ExemptBeauty x = new ExemptBeauty();
        Due.is("20 no looks", x.tastes(0), 61);
        Due.is("20 no looks", x.tastes(1), 0);
        x.person(0, 5, 0);
        x.person(1, 5, 19);
        x.see(0, 1, true, 0);
        Due.is("20", x.tastes(0), 7);
        Due.is("20", x.tastes(1), 0);
        x.see(0, 1, false, 20);
        Due.is("20", x.tastes(0), 0);
        Due.is("20", x.tastes(1), -5);
        x.see(-1, 0, false, 0);
        x.see(0, 1, false, 0);
        Due.is("20", x.tastes(0), 54);
        Due.is("20", x.tastes(1), 7);
        x.see(-1, 0, false, 0);
        x.see(1, 0, true, 0);
        x.see(1, 0, false, 1);
        Due.is("20", x.tastes(0), 1);
        Due.is("20", x.tastes(1), 6);
        x.pass(1);
        Due.is("20 from now", x.tastes(0), 0);
        Due.is("20 what", x.tastes(2), NONE);
        Due.is("20 what", x.tastes(-1), NONE);
        Due.is("20 changed nothing", x.told(2), 8);
        x.leave(1, true);
        Due.is("20 left, as fine", x.tastes(1), -5);
    }

    private static void graces() {
        ExemptBeauty x = new ExemptBeauty();
        x.person(0, 5, 0);
        x.person(1, 5, 19);
        Due.is("21 no looks", x.graces(0, 0, 0), 10);
        Due.is("21 no looks", x.graces(0, 0, 1), 0);
        x.see(1, 0, true, 0);
        x.see(1, 0, false, 1);
        Due.is("21", x.graces(1, 0, 0), 1);
        Due.is("21", x.graces(1, 0, 1), 7);
        Due.is("21 of another part", x.graces(1, 3, 0), 0);
        Due.is("21 of another part", x.graces(1, 3, 1), -5);
        Due.is("21 of another one", x.graces(0, 0, 0), 0);
        Due.is("21 changed nothing", x.of(1, 10), 5);
        x.grace(1, 0, 7);
        Due.is("21 of another one, as it is so", x.graces(0, 0, 0), 10);
        Due.is("21 what", x.graces(0, 0, 2), NONE);
        Due.is("21 what", x.graces(0, 0, -1), NONE);
        Due.is("21 part", x.graces(0, 6, 0), NONE);
        Due.is("21 part", x.graces(0, -1, 0), NONE);
        Due.is("21 person", x.graces(2, 0, 0), NONE);
        Due.is("21 person", x.graces(-1, 0, 0), NONE);
    }

    private static void can() {
        ExemptBeauty x = new ExemptBeauty();
        Due.is("22 nobody", x.can(0, 0), NONE);
        x.person(5, 4, 19);
        Due.is("22 no looks", x.can(0, 0), 10);
        Due.is("22 no looks", x.can(0, 1), 0);
        x.see(0, 3, true, 0);
        x.see(0, 3, false, 1);
        Due.is("22", x.can(0, 0), 7);
        Due.is("22", x.can(0, 1), 3);
        Due.is("22 changed nothing", x.of(0, 1), 4);
        x.see(0, 3, true, 2);
        Due.is("22 never", x.can(0, 0), 0);
        Due.is("22 never", x.can(0, 1), -5);
        Due.is("22 what", x.can(0, 2), NONE);
        Due.is("22 what", x.can(0, -1), NONE);
        Due.is("22 person", x.can(-1, 0), NONE);
        Due.is("22 person", x.can(1, 0), NONE);
    }

    private static void canByYears() {
        ExemptBeauty x = new ExemptBeauty();
        x.person(0, 8, 39);
        x.see(0, 2, false, 1);
        Due.is("22 loses part 2 by 2 and 8", x.can(0, 0), 2);
        Due.is("22 loses part 2 by 2 and 8", x.can(0, 1), 2);
        Due.is("22 changed nothing", x.of(0, 12), 8);
        x.see(-1, 0, true, 0);
        Due.office(x, "mind 9 v>5");
        x.see(0, 0, true, 0);
        Due.is("22 v in a test", x.can(0, 0), 6);
        Due.is("22 v in a test", x.can(0, 1), 0);
    }

    private static void odds() {
        ExemptBeauty x = new ExemptBeauty();
        Due.is("23 nobody", x.odds(0, 0, 0), NO);
        int[] vs = {0, 5, 6, 7, 9};
        int[] above = {0, 1, 7, 13, 1};
        int[] below = {1, 24, 24, 24, 1};
        for (int p = 0; p < 5; p++) {
            x.person(0, vs[p], 0);
            Due.is("23 above of " + vs[p], x.odds(p, 5, 0), above[p]);
            Due.is("23 below of " + vs[p], x.odds(p, 5, 1), below[p]);
        }
        Due.is("23 person", x.odds(5, 0, 0), NO);
        Due.is("23 person", x.odds(-1, 0, 0), NO);
        Due.is("23 part", x.odds(0, 6, 0), NO);
        Due.is("23 part", x.odds(0, -1, 0), NO);
        Due.is("23 side", x.odds(0, 0, 2), NO);
        Due.is("23 side", x.odds(0, 0, -1), NO);
        Due.office(x, "like 9 h<6");
        Due.is("23 in lowest terms", x.odds(0, 0, 0), 1);
        Due.is("23 in lowest terms", x.odds(0, 0, 1), 4);
        Due.is("23 changed nothing", x.told(1), 12);
        x.leave(0, true);
        Due.is("23 left", x.odds(0, 0, 1), 4);
    }

    private static void mean() {
        ExemptBeauty x = new ExemptBeauty();
        Due.is("24 nobody", x.mean(0, 0), NO);
        x.person(0, 5, 0);
        x.person(0, 9, 0);
        x.person(0, 0, 0);
        x.leave(2, true);
        Due.is("24 above", x.mean(12, 0), 20);
        Due.is("24 below", x.mean(12, 1), 1);
        Due.is("24 above", x.mean(18, 0), 0);
        Due.is("24 below", x.mean(18, 1), 1);
        x.grace(0, 0, 9);
        Due.is("24 above", x.mean(12, 0), 50);
        Due.is("24 below", x.mean(12, 1), 3);
        Due.is("24 hour", x.mean(24, 0), NO);
        Due.is("24 hour", x.mean(-1, 0), NO);
        Due.is("24 side", x.mean(0, 2), NO);
        Due.is("24 side", x.mean(0, -1), NO);
        Due.is("24 changed nothing", x.told(1), 12);
    }

    private static void plan() {
        ExemptBeauty x = new ExemptBeauty();
        x.person(0, 0, 0);
        Due.is("25 what", x.plan(4, 0), NONE);
        Due.is("25 what", x.plan(-2, 0), NONE);
        Due.is("25 person", x.plan(2, 1), NONE);
        Due.is("25 person", x.plan(2, -1), NONE);
        Due.is("25 hour", x.plan(1, 24), BAD);
        Due.is("25 hour", x.plan(1, -1), BAD);
        Due.is("25", x.plan(0, MIN), 1);
        Due.is("25", x.plan(3, MAX), 2);
        Due.is("25", x.plan(1, 23), 3);
        Due.is("25", x.plan(2, 0), 4);
        for (int k = 5; k <= 10; k++) {
            Due.is("25", x.plan(0, 0), k);
        }
        Due.is("25 full", x.plan(0, 0), FULL);
        Due.is("25 none ahead of full", x.plan(4, 0), NONE);
        Due.is("25 none ahead of full", x.plan(2, 6), NONE);
        Due.is("25 bad ahead of full", x.plan(1, 24), BAD);
        Due.is("25 ten", x.count(3), 10);
        Due.is("25 empty", x.plan(-1, MAX), 0);
        Due.is("25 empty", x.count(3), 0);
        Due.is("25", x.plan(2, 0), 1);
    }

    private static void ends() {
        ExemptBeauty x = new ExemptBeauty();
        x.person(0, 6, 39);
        x.person(0, 7, 38);
        int[] whats = {-1, 1, 0, 0, 2, 3};
        int[] ns = {0, 15, 99, 0, 0, 0};
        int[] pays = {60, 0, 10, 20, 10, 10};
        int[] parts = {6, 12, 11, 10, 5, 5};
        for (int k = 0; k < whats.length; k++) {
            Due.is("25", x.plan(whats[k], ns[k]), k);
            Due.is("26 pays behind " + k, x.ends(0), pays[k]);
            Due.is("26 parts behind " + k, x.ends(1), parts[k]);
        }
        Due.is("26 changed nothing", x.of(0, 2), 39);
        Due.is("26 changed nothing", x.of(0, 10), 6);
        Due.is("26 changed nothing", x.of(0, 3), 0);
        Due.is("26 changed nothing", x.told(1), 12);
        Due.is("26 what", x.ends(2), NONE);
        Due.is("26 what", x.ends(-1), NONE);
        x.plan(-1, 0);
        x.leave(0, true);
        Due.is("26 left", x.ends(0), 0);
        Due.is("26 left", x.ends(1), 6);
    }

    private static void endsByHours() {
        ExemptBeauty x = new ExemptBeauty();
        x.person(0, 0, 0);
        Due.office(x, "like 50 h=0;light 12");
        x.plan(1, 23);
        Due.is("26 at 23", x.ends(0), 60);
        x.plan(3, 0);
        Due.is("26 behind 23 comes 0", x.ends(0), 0);
        x.plan(3, 0);
        Due.is("26 at 1", x.ends(1), 0);
        x.plan(1, 0);
        Due.is("26 at 0", x.ends(1), 6);
    }

    private static void book() {
        ExemptBeauty x = new ExemptBeauty();
        Due.is("27 nobody", x.book(0, 1000), NONE);
        x.person(0, 0, 0);
        Due.is("27 person", x.book(1, 0), NONE);
        Due.is("27 person", x.book(-2, 1000), NONE);
        Due.is("27 pays", x.book(0, 1000), BAD);
        Due.is("27 pays", x.book(0, -1), BAD);
        for (int k = 1; k <= 8; k++) {
            Due.is("27", x.book(0, k == 8 ? 999 : 0), k);
        }
        Due.is("27 full", x.book(0, 0), FULL);
        Due.is("27 none ahead of full", x.book(1, 0), NONE);
        Due.is("27 bad ahead of full", x.book(0, 1000), BAD);
        Due.is("27 eight", x.count(4), 8);
        Due.is("27 empty", x.book(-1, -7), 0);
        Due.is("27 empty", x.count(4), 0);
    }

    private static void looked() {
        ExemptBeauty x = new ExemptBeauty();
        Due.is("28 empty", x.looked(), -5);
        x.person(0, 0, 0);
        x.person(0, 9, 0);
        x.book(0, 60);
        x.book(1, 0);
        x.book(0, 60);
        Due.is("28 as it is", x.looked(), -5);
        x.grace(1, 0, 0);
        Due.is("28 the second", x.looked(), 1);
        x.leave(0, true);
        Due.is("28 the first", x.looked(), 0);
        x.book(-1, 0);
        x.book(0, 0);
        x.book(1, 10);
        x.book(0, 1);
        Due.is("28 the third", x.looked(), 2);
    }
}
