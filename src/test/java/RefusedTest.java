import java.util.ArrayList;
import java.util.List;

/**
 * What is refused changes nothing, and of several refusals the first that a call's words name is answered; what is
 * asked changes nothing. All is looked at behind it: see Picture.
 */
public final class RefusedTest {
    private static final int NONE = -1, BAD = -2, STATE = -3, FULL = -4, NO_FACT = -1001;
    private static final int NOTHING = -11, CAST = -12, PLACE = -13, SIZE = -14;
    private static final int MIN = Integer.MIN_VALUE, MAX = Integer.MAX_VALUE;
    private static final long NO = Long.MIN_VALUE;

    /** A call that answers. */
    private interface Asked {
        long on(ExemptBeauty x);
    }

    private static final class Row {
        final String call;
        final long due;
        final Asked asked;

        Row(String call, long due, Asked asked) {
            this.call = call;
            this.due = due;
            this.asked = asked;
        }
    }

    private final List<Row> rows = new ArrayList<>();

    public static void main(String[] args) {
        people();
        offices();
        asking();
        looks();
        plansAndBooks();
        tapes();
        fullPeople();
        fullLooksAndBooks();
        fullPlan();
        fullText();
        fullOffices();
        lastYear();
        noImage();
        askedAlone();
        actsLeaveAllElse();
        Due.end();
    }

    private void due(String call, long due, Asked asked) {
        rows.add(new Row(call, due, asked));
    }

    /** Each answer is as due, and behind all of them the object stands as if nothing had been called. */
    private void changeNothing(String what, Picture.Calls before) {
        Picture.isSame(what + " changes nothing", before, x -> {
            for (Row row : rows) {
                Due.is(row.call, row.asked.on(x), row.due);
            }
        });
    }

    private static void feed(ExemptBeauty x, String text) {
        for (int i = 0; i < text.length(); i++) {
            x.feed(text.charAt(i));
        }
    }

    /** Something of all there is, behind an image of something else. */
    private static final Picture.Calls LIVELY = x -> {
        x.person(6, 5, 39);
        x.person(4, 8, 60);
        x.image();
        x.person(2, 4, 19);
        x.row(0, 1, 3);
        x.grace(1, 2, 9);
        x.leave(1, true);
        feed(x, "like 2 t=1;taste 7;rate 3");
        x.office();
        x.hour(20);
        x.pass(3);
        x.see(0, 0, true, 0);
        x.see(2, 4, false, 20);
        x.plan(3, 0);
        x.plan(0, 0);
        x.book(0, x.of(0, 4));
        x.book(2, x.of(2, 4));
        for (int t = 0; t < 5; t++) {
            x.tape(t, t, 3);
            x.item(t, 1, 77);
        }
        feed(x, "rate 8");
        x.act(0, 2, 3);
    };

    private static void people() {
        RefusedTest it = new RefusedTest();
        int[] kinds = {-1, 7, MIN, MAX};
        for (int kind : kinds) {
            it.due("2 kind " + kind, NONE, x -> x.person(kind, 0, 0));
            it.due("2 kind ahead of v and age", NONE, x -> x.person(kind, -1, 100));
        }
        int[] vs = {-1, 10, MIN, MAX};
        for (int v : vs) {
            it.due("2 v " + v, BAD, x -> x.person(0, v, 0));
            it.due("4 n " + v, BAD, x -> x.grace(0, 0, v));
            it.due("6 n " + v, BAD, x -> x.row(0, 1, v));
            it.due("6 n ahead of kind", BAD, x -> x.row(1, 1, v));
        }
        int[] ages = {-1, 100, MIN, MAX};
        for (int age : ages) {
            it.due("2 age " + age, BAD, x -> x.person(0, 0, age));
        }
        int[] people = {-1, 3, 6, MIN, MAX};
        for (int p : people) {
            it.due("3 person " + p, NO_FACT, x -> x.of(p, 4));
            it.due("4 person " + p, NONE, x -> x.grace(p, 0, 1));
            it.due("4 person ahead of n", NONE, x -> x.grace(p, 0, 10));
            it.due("5 person " + p, NONE, x -> x.leave(p, true));
            it.due("6 person " + p, NONE, x -> x.row(p, 0, 1));
            it.due("6 person ahead of n", NONE, x -> x.row(p, 0, 10));
        }
        int[] parts = {-1, 6, MIN, MAX};
        for (int part : parts) {
            it.due("4 part " + part, NONE, x -> x.grace(0, part, 1));
            it.due("4 part ahead of n", NONE, x -> x.grace(0, part, 10));
            it.due("6 k " + part, NONE, x -> x.row(0, part, 1));
            it.due("6 k ahead of n", NONE, x -> x.row(0, part, 10));
            it.due("6 k ahead of kind", NONE, x -> x.row(1, part, 1));
        }
        it.due("6 k 4", NONE, x -> x.row(0, 4, 1));
        it.due("6 another kind", STATE, x -> x.row(1, 0, 1));
        it.due("6 another kind", STATE, x -> x.row(2, 3, 9));
        it.changeNothing("who is refused", LIVELY);
    }

    private static void offices() {
        RefusedTest it = new RefusedTest();
        int[] hours = {-1, 24, MIN, MAX};
        for (int h : hours) {
            it.due("7 hour " + h, BAD, x -> x.hour(h));
            it.due("13 hour " + h, BAD, x -> x.seenAt(0, h));
            it.due("13 person ahead of hour", NONE, x -> x.seenAt(3, h));
            it.due("24 hour " + h, NO, x -> x.mean(h, 0));
        }
        int[] signs = {-1, 128, MIN, MAX};
        for (int sign : signs) {
            it.due("8 sign " + sign, BAD, x -> x.feed(sign));
        }
        int[] whats = {-1, 7, MIN, MAX};
        for (int what : whats) {
            it.due("10 what " + what, NONE, x -> x.told(what));
            it.due("35 what " + what, BAD, x -> x.count(what));
            it.due("3 what " + what, NO_FACT, x -> x.of(0, what));
        }
        int[] years = {-1, 61, MIN, MAX};
        for (int n : years) {
            it.due("11 years " + n, BAD, x -> x.pass(n));
            it.due("12 years " + n, BAD, x -> x.on(n, 0));
            it.due("12 what ahead of years", NONE, x -> x.on(n, 1));
            it.due("12 person ahead of years", NONE, x -> x.on(n, 13));
            it.due("12 person ahead of years", NONE, x -> x.on(n, 23));
        }
        it.changeNothing("what is refused of hours and years", LIVELY);
    }

    private static void asking() {
        RefusedTest it = new RefusedTest();
        int[] people = {-1, 3, 6, MIN, MAX};
        for (int p : people) {
            it.due("14 person " + p, NONE, x -> x.when(p, 0));
            it.due("16 one " + p, NONE, x -> x.jointly(p, 0));
            it.due("16 other " + p, NONE, x -> x.jointly(0, p));
            it.due("16 none ahead of both", NONE, x -> x.jointly(p, p));
            it.due("21 person " + p, NONE, x -> x.graces(p, 0, 0));
            it.due("22 person " + p, NONE, x -> x.can(p, 0));
            it.due("23 person " + p, NO, x -> x.odds(p, 0, 0));
            it.due("34 person " + p, NOTHING, x -> x.taken(p, 0));
            it.due("34 k ahead of person", BAD, x -> x.taken(p, 7));
        }
        it.due("16 one is both", BAD, x -> x.jointly(0, 0));
        it.due("34 another kind", CAST, x -> x.taken(1, 2));
        int[] whats = {-1, 2, MIN, MAX};
        for (int what : whats) {
            it.due("14 what " + what, NONE, x -> x.when(0, what));
            it.due("17 what " + what, NONE, x -> x.pairs(what));
            it.due("20 what " + what, NONE, x -> x.tastes(what));
            it.due("21 what " + what, NONE, x -> x.graces(0, 0, what));
            it.due("22 what " + what, NONE, x -> x.can(0, what));
            it.due("23 side " + what, NO, x -> x.odds(0, 0, what));
            it.due("24 side " + what, NO, x -> x.mean(0, what));
            it.due("26 what " + what, NONE, x -> x.ends(what));
        }
        it.due("15 k -2", NONE, x -> x.line(-2));
        it.due("15 k 6", NONE, x -> x.line(6));
        it.due("17 partner of nobody", NONE, x -> x.pairs(13));
        it.due("18 q -1", BAD, x -> x.raises(-1));
        it.due("18 q 10000", BAD, x -> x.raises(10000));
        it.due("21 part -1", NONE, x -> x.graces(0, -1, 0));
        it.due("21 part 6", NONE, x -> x.graces(0, 6, 0));
        it.due("23 part -1", NO, x -> x.odds(0, -1, 0));
        it.due("23 part 6", NO, x -> x.odds(0, 6, 0));
        it.due("33 i -1", NONE, x -> x.trace(-1));
        it.due("33 i 12", NONE, x -> x.trace(12));
        it.changeNothing("what is refused of questions", LIVELY);
    }

    private static void looks() {
        RefusedTest it = new RefusedTest();
        int[] people = {-2, 3, 6, MIN, MAX};
        for (int p : people) {
            it.due("19 person " + p, NONE, x -> x.see(p, 0, true, 0));
            it.due("19 person ahead of n", NONE, x -> x.see(p, 0, true, 21));
        }
        int[] parts = {-1, 6, MIN, MAX};
        for (int part : parts) {
            it.due("19 part " + part, NONE, x -> x.see(0, part, true, 0));
            it.due("19 part ahead of n", NONE, x -> x.see(0, part, true, 21));
        }
        int[] years = {-1, 21, MIN, MAX};
        for (int n : years) {
            it.due("19 years " + n, BAD, x -> x.see(0, 0, true, n));
        }
        it.changeNothing("a look that is refused", LIVELY);
    }

    private static void plansAndBooks() {
        RefusedTest it = new RefusedTest();
        int[] whats = {-2, 4, MIN, MAX};
        for (int what : whats) {
            it.due("25 what " + what, NONE, x -> x.plan(what, 0));
        }
        int[] people = {-1, 3, MIN, MAX};
        for (int p : people) {
            it.due("25 person " + p, NONE, x -> x.plan(2, p));
        }
        int[] hours = {-1, 24, MIN, MAX};
        for (int h : hours) {
            it.due("25 hour " + h, BAD, x -> x.plan(1, h));
        }
        int[] bookless = {-2, 3, MIN, MAX};
        for (int p : bookless) {
            it.due("27 person " + p, NONE, x -> x.book(p, 0));
            it.due("27 person ahead of pays", NONE, x -> x.book(p, 1000));
        }
        int[] pays = {-1, 1000, MIN, MAX};
        for (int paid : pays) {
            it.due("27 pays " + paid, BAD, x -> x.book(0, paid));
        }
        it.changeNothing("a row that is refused", LIVELY);
    }

    private static void tapes() {
        RefusedTest it = new RefusedTest();
        int[] none = {-1, 6, MIN, MAX};
        for (int t : none) {
            it.due("29 tape " + t, NONE, x -> x.judge(t, 0));
            it.due("36 tape " + t, NONE, x -> x.tape(t, 5, -1));
            it.due("37 tape " + t, NONE, x -> x.item(t, -1, 5));
            it.due("38 tape " + t, NO, x -> x.read(t, 0));
            it.due("39 tape " + t, NONE, x -> x.shift(t, -1, 5, 0, 1));
            it.due("39 other " + t, NONE, x -> x.shift(5, -1, t, 0, 1));
        }
        int[] sorts = {0, 1, 3, 4};
        for (int t : sorts) {
            it.due("29 sort " + t, CAST, x -> x.judge(t, -1));
            it.due("36 61 of sort " + t, BAD, x -> x.tape(t, t, 61));
            it.due("36 -1 of sort " + t, SIZE, x -> x.tape(t, t, -1));
            it.due("39 of unlike sorts", CAST, x -> x.shift(t, 0, 2, 0, 1));
        }
        it.due("36 sort 5", BAD, x -> x.tape(2, 5, 3));
        it.due("36 sort -2 ahead of size", BAD, x -> x.tape(2, -2, -1));
        int[] places = {-1, 3, MIN, MAX};
        for (int i : places) {
            it.due("37 place " + i, PLACE, x -> x.item(2, i, 5));
            it.due("37 nothing ahead of place", NOTHING, x -> x.item(5, i, 5));
            it.due("38 place " + i, NO, x -> x.read(2, i));
            it.due("39 from " + i, PLACE, x -> x.shift(2, i, 2, 0, 1));
            it.due("39 to " + i, PLACE, x -> x.shift(2, 0, 2, i, 1));
        }
        it.due("39 four", PLACE, x -> x.shift(2, 0, 2, 0, 4));
        it.due("39 -1", PLACE, x -> x.shift(2, 0, 2, 0, -1));
        it.due("39 nothing", NOTHING, x -> x.shift(2, 0, 5, 0, -1));
        it.due("39 nothing", NOTHING, x -> x.shift(5, 0, 2, 0, -1));
        it.changeNothing("what is refused of tapes", LIVELY);
    }

    // ---- full

    private static void fullPeople() {
        RefusedTest it = new RefusedTest();
        it.due("2 full", FULL, x -> x.person(6, 9, 99));
        it.due("2 kind ahead of full", NONE, x -> x.person(7, 9, 99));
        it.due("2 v ahead of full", BAD, x -> x.person(6, 10, 99));
        it.due("2 age ahead of full", BAD, x -> x.person(6, 9, -1));
        it.changeNothing("a seventh", x -> {
            LIVELY.on(x);
            for (int p = 3; p < 6; p++) {
                x.person(p, p, p * 10);
            }
        });
    }

    private static void fullLooksAndBooks() {
        RefusedTest it = new RefusedTest();
        it.due("19 full", FULL, x -> x.see(0, 0, false, 0));
        it.due("19 person ahead of full", NONE, x -> x.see(3, 0, false, 0));
        it.due("19 part ahead of full", NONE, x -> x.see(0, 6, false, 0));
        it.due("19 years ahead of full", BAD, x -> x.see(0, 0, false, 21));
        it.due("27 full", FULL, x -> x.book(0, 777));
        it.due("27 person ahead of full", NONE, x -> x.book(3, 777));
        it.due("27 pays ahead of full", BAD, x -> x.book(0, 1000));
        it.changeNothing("a seventh look, a ninth row", x -> {
            LIVELY.on(x);
            for (int k = 2; k < 6; k++) {
                x.see(0, k, true, k);
            }
            for (int k = 2; k < 8; k++) {
                x.book(0, x.of(0, 4));
            }
        });
    }

    private static void fullPlan() {
        RefusedTest it = new RefusedTest();
        it.due("25 full", FULL, x -> x.plan(0, 0));
        it.due("25 full", FULL, x -> x.plan(1, 5));
        it.due("25 full", FULL, x -> x.plan(2, 0));
        it.due("25 full", FULL, x -> x.plan(3, 0));
        it.due("25 what ahead of full", NONE, x -> x.plan(4, 0));
        it.due("25 person ahead of full", NONE, x -> x.plan(2, 3));
        it.due("25 hour ahead of full", BAD, x -> x.plan(1, 24));
        it.changeNothing("an eleventh row", x -> {
            LIVELY.on(x);
            for (int k = 2; k < 10; k++) {
                x.plan(1, k);
            }
        });
    }

    private static void fullText() {
        RefusedTest it = new RefusedTest();
        it.due("8 full", FULL, x -> x.feed('9'));
        it.due("8 full", FULL, x -> x.feed(0));
        it.due("8 bad ahead of full", BAD, x -> x.feed(128));
        it.due("8 bad ahead of full", BAD, x -> x.feed(-1));
        // 100 bytes: "rate 3" and what is liked
        it.changeNothing("a byte beyond the hundredth", x -> {
            x.person(0, 5, 5);
            x.person(0, 5, 5);
            x.image();
            feed(x, "rate 3;like 8 p<10&p<12");
            for (int k = 0; k < 19; k++) {
                feed(x, "&p<9");
            }
            x.feed('4');
        });
    }

    private static void fullOffices() {
        RefusedTest it = new RefusedTest();
        it.due("9 full", FULL, ExemptBeauty::office);
        it.due("9 full again", FULL, ExemptBeauty::office);
        it.changeNothing("a seventh office", x -> {
            LIVELY.on(x);
            x.office();
            for (int o = 2; o < 6; o++) {
                feed(x, "taste " + o);
                x.office();
            }
            feed(x, "taste 6;ra");
        });
    }

    private static void lastYear() {
        RefusedTest it = new RefusedTest();
        it.due("11 above", STATE, x -> x.pass(1));
        it.due("11 above", STATE, x -> x.pass(60));
        it.due("11 bad ahead of above", BAD, x -> x.pass(61));
        it.due("11 none", 9999, x -> x.pass(0));
        it.changeNothing("a year above 9999", x -> {
            for (int k = 0; k < 166; k++) {
                x.pass(60);
            }
            x.pass(39);
            x.person(0, 7, 39);
            x.person(1, 9, 19);
        });
    }

    private static void noImage() {
        RefusedTest it = new RefusedTest();
        it.due("31 none", STATE, ExemptBeauty::undo);
        it.changeNothing("undo without an image", x -> {
            x.person(6, 5, 39);
            x.row(0, 2, 7);
            x.hour(3);
            x.see(0, 0, true, 3);
        });
    }

    // ---- asked

    private static void askedAlone() {
        Picture.isSame("what is asked changes nothing", LIVELY, x -> {
            for (int p = 0; p < 3; p++) {
                x.seenAt(p, 0);
                x.when(p, 0);
                x.when(p, 1);
                x.jointly(p, (p + 1) % 3);
                x.graces(p, p, 0);
                x.can(p, 1);
                x.odds(p, p, 0);
                x.on(60, 10 + p);
                x.on(60, 20 + p);
                x.pairs(10 + p);
                x.taken(p, p);
                x.of(p, 6);
            }
            x.on(60, 0);
            x.line(-1);
            x.line(2);
            x.pairs(0);
            x.raises(9);
            x.tastes(0);
            x.mean(23, 1);
            x.ends(0);
            x.ends(1);
            x.looked();
            x.judge(2, 0);
            x.judge(5, 0);
            x.trace(3);
            x.count(6);
            x.read(4, 1);
        });
        String[] names = {"of", "told", "tapes", "plans"};
        Picture.Calls[] changes = {x -> x.grace(0, 0, 9), x -> x.hour(3), x -> x.item(1, 2, 5), x -> x.plan(3, 0)};
        for (int k = 0; k < names.length; k++) {
            Picture.isOther("a picture tells " + names[k], LIVELY, changes[k]);
        }
    }

    /** An act has its own trace, and the others' states stay; one that is none has none. */
    private static void actsLeaveAllElse() {
        Picture.isSame("32 acts leave but the latest trace", LIVELY, x -> {
            for (int act = 0; act < 3; act++) {
                for (int p = 0; p < 3; p++) {
                    x.act(p, act, MAX);
                }
            }
            x.act(3, 0, 0);
            x.act(0, 2, 3);
        });
        Picture.isOther("32 none leaves no trace", LIVELY, x -> x.act(3, 0, 0));
    }
}
