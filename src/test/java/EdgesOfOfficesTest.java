/**
 * Section 1 on THE TEXT and OFFICES with promises 8 to 10: which byte may stand where, how long and how deep, how many
 * clauses and offices, and what holds.
 */
public final class EdgesOfOfficesTest {
    private static final int NONE = -1, BAD = -2, FULL = -4;
    private static final int MIN = Integer.MIN_VALUE, MAX = Integer.MAX_VALUE;
    private static final String DIGITS = "0123456789", BEGINS = "!(ptkvah", LETTERS = "ptkvah", WORDS = "lmtr";
    /** Texts, and all signs of which an office may go on so; any other sign is the fault. */
    private static final String[][] NEXT = {
        {"", WORDS}, {"l", "i"}, {"li", "kg"}, {"lik", "e"}, {"like", " "}, {"like ", DIGITS}, {"lig", "h"}, {"ligh", "t"},
        {"light", " "}, {"light ", DIGITS}, {"light 2", DIGITS + ";"}, {"light 24", ";"}, {"m", "i"}, {"mi", "n"}, {"min", "d"},
        {"mind", " "}, {"mind ", DIGITS}, {"mind 3", DIGITS + " "}, {"mind 34", " "}, {"mind 3 ", BEGINS}, {"mind 34 ", BEGINS},
        {"t", "a"}, {"ta", "s"}, {"tas", "t"}, {"tast", "e"}, {"taste", " "}, {"taste ", DIGITS}, {"taste 0", DIGITS + ";"},
        {"taste 99", ";"}, {"r", "a"}, {"ra", "t"}, {"rat", "e"}, {"rate", " "}, {"rate ", DIGITS}, {"rate 9", DIGITS + ";"},
        {"rate 00", ";"}, {"like 1", DIGITS + " "}, {"like 12", " "}, {"like 12 ", BEGINS}, {"like 1 p", "<=>"}, {"like 1 t", "<=>"},
        {"like 1 k", "<=>"}, {"like 1 v", "<=>"}, {"like 1 a", "<=>"}, {"like 1 h", "<=>"}, {"like 1 p<", DIGITS},
        {"like 1 p=", DIGITS}, {"like 1 p>", DIGITS}, {"like 1 p<3", DIGITS + "&|;"}, {"like 1 p<34", "&|;"},
        {"like 1 p<3&", BEGINS}, {"like 1 p<3|", BEGINS}, {"like 1 p<3&t=0", DIGITS + "&|;"}, {"like 1 p<3|t=00", "&|;"},
        {"like 1 !", BEGINS}, {"like 1 !p=1", DIGITS + "&|;"}, {"like 1 (", BEGINS}, {"like 1 (p=1", DIGITS + "&|)"},
        {"like 1 (p=12", "&|)"}, {"like 1 (p=1)", "&|;"}, {"like 1 (p=1&", BEGINS}, {"like 1 (p=1|", BEGINS},
        {"like 1 !(p=1", DIGITS + "&|)"}, {"like 1 !(p=1)", "&|;"}, {"like 1 (!p=11", "&|)"}, {"like 1 ((p=11", "&|)"},
        {"like 1 ((p=11)", "&|)"}, {"like 1 ((p=11))", "&|;"}, {"taste 1;", WORDS}, {"like 1 p=1;", WORDS},
        {"like 1 p=1;l", "i"}, {"mind 1 (p=1);rate 1", DIGITS + ";"},
        // within 4 others there is neither ( nor !
        {"like 1 !!!", BEGINS}, {"like 1 (((", BEGINS}, {"like 1 !(!", BEGINS}, {"like 1 (!(", BEGINS},
        {"like 1 !!!!", LETTERS}, {"like 1 ((((", LETTERS}, {"like 1 !(!(", LETTERS}, {"like 1 (!(!", LETTERS},
        {"like 1 (!!!", LETTERS}, {"like 1 !!!(", LETTERS},
        {"like 1 !!!!p=1&", BEGINS}, {"like 1 !!!!p=1|", BEGINS}, {"like 1 ((((p=1&", LETTERS}, {"like 1 ((((p=1|", LETTERS},
        {"like 1 ((((p=1)&", BEGINS}, {"like 1 ((((p=1)|(", LETTERS}, {"like 1 ((((p=1))))&", BEGINS},
        {"like 1 (!!!p=1&", BEGINS}, {"like 1 (!!!p=1&!!!", LETTERS}, {"like 1 ((p=1&!!", LETTERS}, {"like 1 ((p=1&!", BEGINS},
        {"like 1 (p=1&(!(", LETTERS}, {"like 1 ((((p=1))))&((((", LETTERS}, {"like 1 !(p=1)&!!!!", LETTERS},
        {"like 1 ((((p=1))));mind 1 ((((", LETTERS}, {"like 1 ((((p=12", "&|)"}, {"like 1 ((((p=12)", "&|)"},
        {"like 1 ((((p=12))", "&|)"}, {"like 1 ((((p=12)))", "&|)"}, {"like 1 ((((p=12))))", "&|;"},
        // ten clauses at most
        {"rate 1;rate 1;rate 1;rate 1;rate 1;rate 1;rate 1;rate 1;rate 12", ";"},
        {"rate 1;rate 1;rate 1;rate 1;rate 1;rate 1;rate 1;rate 1;rate 1;", WORDS},
        {"rate 1;rate 1;rate 1;rate 1;rate 1;rate 1;rate 1;rate 1;rate 1;rate 1", DIGITS},
        {"rate 1;rate 1;rate 1;rate 1;rate 1;rate 1;rate 1;rate 1;rate 1;rate 12", ""},
        {"rate 1;rate 1;rate 1;rate 1;rate 1;rate 1;rate 1;rate 1;rate 1;like 1 p=12", "&|"}
    };

    public static void main(String[] args) {
        nextSigns();
        endsTooEarly();
        signs();
        hundredBytes();
        lastByteCounts();
        textBehindOffice();
        clauses();
        digits();
        settings();
        without();
        likingAdds();
        testsByOneMore();
        agesByTen();
        joined();
        sixOffices();
        faultLeaves();
        manyFaults();
        toldOutside();
        Due.end();
    }

    private static ExemptBeauty fed(String text) {
        ExemptBeauty x = new ExemptBeauty();
        for (int i = 0; i < text.length(); i++) {
            x.feed(text.charAt(i));
        }
        return x;
    }

    private static void nextSigns() {
        for (String[] next : NEXT) {
            for (char sign = 0; sign < 128; sign++) {
                String text = next[0] + sign;
                ExemptBeauty x = fed(text);
                int got = x.office();
                if (next[1].indexOf(sign) < 0) {
                    Due.is("9 '" + next[0] + "' and then sign " + (int) sign, got, -10 - next[0].length());
                } else {
                    Due.holds("9 '" + text + "' answered " + got, got == 0 || got == -10 - text.length());
                }
                Due.is("9 empty then", x.count(5), 0);
            }
        }
    }

    /** What begins an office, but is none yet: the fault is the end. */
    private static void endsTooEarly() {
        String text = "like 12 p<3&!(t>45|k=0);mind 0 a>9;taste 7;light 08;rate 99";
        int[] offices = {11, 23, 34, 42, 50, 51, 58, 59};
        int k = 0;
        for (int n = 0; n <= text.length(); n++) {
            boolean isOffice = k < offices.length && offices[k] == n;
            k += isOffice ? 1 : 0;
            Due.is("9 the first " + n + " bytes", fed(text.substring(0, n)).office(), isOffice ? 0 : -10 - n);
        }
        Due.is("9 as many offices as told", k, offices.length);
        Due.is("9 the empty text", fed("").office(), -10);
        String[] open = {"like 1 (p=1", "like 1 ((p=1)", "like 1 (p=1&(t=1)", "mind 1 ((((p=1)))", "mind 1 !(!(p=1)"};
        for (String one : open) {
            Due.is("9 open: " + one, fed(one).office(), -10 - one.length());
            Due.is("9 open, and ; comes: " + one, fed(one + ";rate 1").office(), -10 - one.length());
            Due.is("9 closed: " + one, fed(one + ")").office(), 0);
            Due.is("9 closed once too often: " + one, fed(one + "))").office(), -10 - one.length() - 1);
        }
    }

    // ---- how long

    private static void signs() {
        ExemptBeauty x = new ExemptBeauty();
        Due.is("8 -1", x.feed(-1), BAD);
        Due.is("8 128", x.feed(128), BAD);
        int[] far = {MIN, MIN + 1, 255, 256, 256 + 108, 65536 + 108, MAX};
        for (int sign : far) {
            Due.is("8 far", x.feed(sign), BAD);
        }
        Due.is("8 nothing came", x.count(5), 0);
        Due.is("8 the least", x.feed(0), 1);
        Due.is("8 the greatest", x.feed(127), 2);
        Due.is("8 two came", x.count(5), 2);
        Due.is("9 neither begins an office", x.office(), -10);
    }

    /** Of exactly 99 bytes, ahead of a last one. */
    private static String ninetyNine() {
        StringBuilder text = new StringBuilder("like 7 p<10&p<9");
        while (text.length() < 95) {
            text.append("&p<9");
        }
        text.append("&t=1");
        Due.is("the text's length", text.length(), 99);
        return text.toString();
    }

    private static void hundredBytes() {
        ExemptBeauty x = fed(ninetyNine());
        x.person(0, 0, 0);
        Due.is("8 the hundredth", x.feed('2'), 100);
        Due.is("8 one beyond", x.feed('3'), FULL);
        Due.is("8 one beyond, of no sign", x.feed(128), BAD);
        Due.is("8 one beyond, of no sign", x.feed(-1), BAD);
        Due.is("8 a hundred", x.count(5), 100);
        Due.is("9 an office of a hundred bytes", x.office(), 0);
        Due.is("8 empty then", x.count(5), 0);
        Due.is("8 a first one", x.feed('r'), 1);
        for (int part = 0; part < 6; part++) {
            Due.is("9 its last byte counts: t=12 is none", x.of(0, 30 + part), 0);
        }
        ExemptBeauty y = fed(ninetyNine());
        y.person(0, 0, 0);
        Due.is("9 an office of 99 bytes", y.office(), 0);
        for (int part = 0; part < 6; part++) {
            Due.is("9 t=1", y.of(0, 30 + part), part == 1 ? 7 : 0);
        }
    }

    private static void lastByteCounts() {
        Due.is("9 fault at the hundredth", fed(ninetyNine() + "x").office(), -10 - 99);
        Due.is("9 ends too early behind the hundredth", fed(ninetyNine() + "&").office(), -10 - 100);
        Due.is("9 ends too early behind the hundredth", fed(ninetyNine() + ";").office(), -10 - 100);
        Due.is("9 what is beyond a hundred is not there", fed(ninetyNine() + "2)))").office(), 0);
    }

    private static void textBehindOffice() {
        ExemptBeauty x = fed("rate 1");
        Due.is("9", x.office(), 0);
        Due.is("9 empty then", x.office(), -10);
        Due.is("8 a first one", x.feed('r'), 1);
        Due.is("9 a fault", x.office(), -11);
        Due.is("9 empty then, too", x.office(), -10);
        Due.is("8 a first one", x.feed('r'), 1);
        Due.is("35 one office", x.count(1), 1);
        Due.is("10 that holds", x.told(4), 1);
    }

    // ---- how many, how great

    private static void clauses() {
        String[] kinds = {"taste 1", "light 1", "rate 1", "like 1 p<9", "mind 1 p=1"};
        for (String clause : kinds) {
            StringBuilder text = new StringBuilder(clause);
            for (int n = 1; n <= 10 && text.length() < 100; n++) {
                int length = text.length();
                Due.is("9 of " + n + " clauses " + clause, fed(text.toString()).office(), 0);
                Due.is("9 and a ; more", fed(text + ";").office(), n < 10 ? -10 - length - 1 : -10 - length);
                text.append(";").append(clause);
            }
        }
        String nine = "rate 1;rate 2;rate 3;rate 4;rate 5;rate 6;rate 7;rate 8;taste 9";
        ExemptBeauty x = fed(nine + ";rate 10");
        Due.is("9 ten", x.office(), 0);
        Due.is("9 the tenth holds", x.told(4), 10);
        Due.is("9 the ninth holds", x.told(2), 9);
        ExemptBeauty y = fed(nine + ";rate 10;rate 11");
        Due.is("9 eleven", y.office(), -10 - nine.length() - 8);
        Due.is("9 none holds", y.told(4), 10);
        Due.is("9 none holds", y.told(2), 8);
        Due.is("35 none", y.count(1), 0);
    }

    private static void digits() {
        String[] words = {"taste ", "light ", "rate "};
        for (String word : words) {
            Due.is("9 no digit", fed(word).office(), -10 - word.length());
            Due.is("9 no digit, ;", fed(word + ";").office(), -10 - word.length());
            Due.is("9 one digit", fed(word + "1").office(), 0);
            Due.is("9 two digits", fed(word + "12").office(), 0);
            Due.is("9 three digits", fed(word + "123").office(), -10 - word.length() - 2);
            Due.is("9 a blank behind", fed(word + "1 ").office(), -10 - word.length() - 1);
            Due.is("9 two blanks ahead", fed(word + " 1").office(), -10 - word.length());
            Due.is("9 no blank ahead", fed(word.trim() + "1").office(), -10 - word.length() + 1);
        }
        String[] wishes = {"like ", "mind "};
        for (String word : wishes) {
            Due.is("9 no digit", fed(word + " p=1").office(), -10 - 5);
            Due.is("9 one digit", fed(word + "1 p=1").office(), 0);
            Due.is("9 two digits", fed(word + "12 p=1").office(), 0);
            Due.is("9 three digits", fed(word + "123 p=1").office(), -10 - 7);
            Due.is("9 nothing liked", fed(word + "12").office(), -10 - 7);
            Due.is("9 nothing liked, ;", fed(word + "12;").office(), -10 - 7);
            Due.is("9 nothing liked behind a blank", fed(word + "12 ").office(), -10 - 8);
            Due.is("9 two blanks", fed(word + "1  p=1").office(), -10 - 7);
            Due.is("9 no blank", fed(word + "1p=1").office(), -10 - 6);
            Due.is("9 a test of no digit", fed(word + "1 p=").office(), -10 - 9);
            Due.is("9 a test of one digit", fed(word + "1 p=0").office(), 0);
            Due.is("9 a test of two digits", fed(word + "1 p=00").office(), 0);
            Due.is("9 a test of three digits", fed(word + "1 p=000").office(), -10 - 11);
        }
    }

    private static int settingOf(String text, int what) {
        ExemptBeauty x = new ExemptBeauty();
        Due.is("9 " + text, Due.office(x, text), 0);
        return x.told(what);
    }

    private static void settings() {
        for (int n = 0; n <= 99; n++) {
            Due.is("10 taste " + n, settingOf("taste " + n, 2), n);
            Due.is("10 light " + n, settingOf("light " + n, 3), n < 23 ? n : 23);
            Due.is("10 rate " + n, settingOf("rate " + n, 4), n);
        }
        for (int n = 0; n <= 9; n++) {
            Due.is("10 taste 0" + n, settingOf("taste 0" + n, 2), n);
            Due.is("10 light 0" + n, settingOf("light 0" + n, 3), n);
            Due.is("10 rate 0" + n, settingOf("rate 0" + n, 4), n);
        }
        Due.is("10 the last taste", settingOf("taste 9;rate 5;taste 0", 2), 0);
        Due.is("10 the last light, 23 if more", settingOf("light 5;rate 5;light 99", 3), 23);
        Due.is("10 the last light, none of more", settingOf("light 99;rate 5;light 5", 3), 5);
        Due.is("10 the last rate", settingOf("rate 9;taste 5;rate 0", 4), 0);
    }

    private static void without() {
        Due.is("10 without taste", settingOf("light 3;rate 4", 2), 8);
        Due.is("10 without light", settingOf("taste 3;rate 4", 3), 18);
        Due.is("10 without rate", settingOf("taste 3;light 4", 4), 10);
        Due.is("10 wishes alone", settingOf("like 1 p=0;mind 2 p=0", 2), 8);
        ExemptBeauty x = new ExemptBeauty();
        x.person(0, 3, 0);
        Due.is("10 no office, taste", x.told(2), 8);
        Due.is("10 no office, light", x.told(3), 18);
        Due.is("10 no office, rate", x.told(4), 10);
        Due.is("3 no office, liking", x.of(0, 30), 0);
    }

    private static void likingAdds() {
        StringBuilder likes = new StringBuilder("like 99 p<9");
        StringBuilder minds = new StringBuilder("mind 99 p<9");
        int many = 1;
        for (; likes.length() + 12 <= 100; many++) {
            likes.append(";like 99 p<9");
            minds.append(";mind 99 p<9");
        }
        ExemptBeauty x = new ExemptBeauty();
        x.person(0, 5, 0);
        x.hour(4);
        Due.office(x, likes.toString());
        Due.is("3 the most liked", x.of(0, 35), 99 * many);
        Due.is("3 as fine", x.of(0, 25), 99 * many + 5);
        Due.office(x, minds.toString());
        Due.is("3 below 0", x.of(0, 35), -99 * many);
        Due.is("3 below 0", x.of(0, 25), 5 - 99 * many);
        Due.office(x, "like 0 t=0;like 1 t=1;mind 1 t=2;like 3 t=3;mind 4 t=3;like 09 t>4;mind 0 t=5");
        int[] due = {0, 1, -1, -1, 0, 9};
        for (int part = 0; part < 6; part++) {
            Due.is("3 liking of " + part, x.of(0, 30 + part), due[part]);
        }
    }

    // ---- tests

    private static ExemptBeauty six() {
        ExemptBeauty x = new ExemptBeauty();
        int[] vs = {0, 9, 1, 8, 4, 5};
        int[] ages = {0, 9, 10, 19, 90, 99};
        int[] kinds = {0, 6, 1, 5, 2, 4};
        for (int p = 0; p < 6; p++) {
            x.person(kinds[p], vs[p], ages[p]);
        }
        return x;
    }

    /** Each letter, each order, by what it is, one less and one more. */
    private static void testsByOneMore() {
        int[] hours = {0, 1, 12, 22, 23, 17};
        for (char letter : LETTERS.toCharArray()) {
            for (int p = 0; p < 6; p++) {
                int part = 5 - p;
                ExemptBeauty x = six();
                x.hour(hours[p]);
                int it = new int[] {p, part, x.of(p, 0), x.of(p, 1), x.of(p, 2) / 10, hours[p]}[LETTERS.indexOf(letter)];
                for (int more = -1; more <= 1; more++) {
                    if (it + more >= 0) {
                        likes(p, part, hours[p], letter + "<" + (it + more), more > 0, "!");
                        likes(p, part, hours[p], letter + "=" + (it + more), more == 0, "!");
                        likes(p, part, hours[p], letter + ">" + (it + more), more < 0, "!");
                    }
                }
                likes(p, part, hours[p], letter + "<99", true, "!");
                likes(p, part, hours[p], letter + ">99", false, "!");
                likes(p, part, hours[p], letter + "<0", false, "!");
            }
        }
    }

    /** Liked if the test is so; minded by the same with something ahead: ! turns it round. */
    private static void likes(int p, int part, int hour, String test, boolean is, String ahead) {
        ExemptBeauty x = six();
        x.hour(hour);
        Due.is("9 like 1 " + test, Due.office(x, "like 1 " + test), 0);
        Due.is("3 " + test + " of " + p + " at " + part, x.of(p, 30 + part), is ? 1 : 0);
        boolean isMinded = ahead.isEmpty() == is;
        ExemptBeauty y = six();
        y.hour(hour);
        Due.is("9 mind 1 " + ahead + test, Due.office(y, "mind 1 " + ahead + test), 0);
        Due.is("3 " + ahead + test + " of " + p + " at " + part, y.of(p, 30 + part), isMinded ? -1 : 0);
    }

    private static void agesByTen() {
        int[] ages = {0, 9, 10, 19, 20, 29, 30, 39, 40, 89, 90, 99};
        int[] tens = {0, 0, 1, 1, 2, 2, 3, 3, 4, 8, 9, 9};
        for (int k = 0; k < ages.length; k++) {
            ExemptBeauty x = new ExemptBeauty();
            x.person(0, 0, ages[k]);
            Due.office(x, "like 1 a=" + tens[k] + ";like 10 a<" + tens[k] + ";like 20 a>" + tens[k]);
            Due.is("3 age " + ages[k] + " by 10", x.of(0, 30), 1);
        }
    }

    /** By p=0 (so), p=1 (not so): & binds closer than |, ! closest. */
    private static void joined() {
        String[] so = {"p=0|p=0&p=1", "p=1&p=0|p=0", "!p=1&p=0", "!(p=1&p=0)", "!p=1|p=1", "!!p=0", "!!!!p=0", "((((p=0))))", "p=1|p=1|p=0",
            "p=0&p=0&p=0", "!(p=1|p=1)", "(p=1|p=0)&(p=0|p=1)", "!p=0|p=0", "p=1&p=1|p=0&p=0", "p=0|p=0", "p=0|p=0|p=0",
            "p=0&p=0|p=0&p=0", "(p=0|p=0)&(p=0|p=0)"};
        String[] not = {"(p=0|p=0)&p=1", "p=1&(p=0|p=0)", "!p=0&p=1", "!(p=1|p=0)", "!p=0|p=1", "!p=0", "!!!p=0", "((((p=1))))",
            "p=1|p=1|p=1", "p=0&p=0&p=1", "!(p=0&p=0)", "(p=1|p=0)&(p=1|p=1)", "p=1&p=0", "p=1&p=0|p=0&p=1", "!(p=0|p=0)", "!(p=0&p=0|p=0)"};
        for (String e : so) {
            likes(0, 0, 12, e, true, "");
        }
        for (String e : not) {
            likes(0, 0, 12, e, false, "");
        }
    }

    // ---- how many offices

    private static void sixOffices() {
        ExemptBeauty x = new ExemptBeauty();
        for (int o = 0; o < 6; o++) {
            Due.is("35 so many", x.count(1), o);
            Due.is("9 a fault counts for none", Due.office(x, "rate"), -14);
            Due.is("9 office " + o, Due.office(x, "rate 2" + o), o);
            Due.is("10 the newest holds", x.told(4), 20 + o);
        }
        Due.is("9 a seventh", Due.office(x, "rate 26"), FULL);
        Due.is("8 the text stays", x.feed(';'), 8);
        Due.is("9 full ahead of a fault", x.office(), FULL);
        Due.is("35 the text stays", x.count(5), 8);
        Due.is("35 six", x.count(1), 6);
        Due.is("10 the sixth holds", x.told(4), 25);
        ExemptBeauty y = new ExemptBeauty();
        for (int o = 0; o < 6; o++) {
            Due.office(y, "rate " + o);
        }
        Due.is("9 full ahead of the empty text's fault", y.office(), FULL);
    }

    private static void faultLeaves() {
        ExemptBeauty x = new ExemptBeauty();
        x.person(0, 0, 0);
        Due.office(x, "like 3 p=0;taste 5;light 6;rate 7");
        String[] faulty = {"like 9 p=0;taste 1;light 1;rate 1;", "like 9 p=0;taste 1;light 1;rate 1x", "mind 9 p=0;taste 111", ""};
        for (String text : faulty) {
            Due.holds("9 a fault", Due.office(x, text) <= -10);
            Due.is("9 the one that held holds, liking", x.of(0, 30), 3);
            Due.is("9 the one that held holds, taste", x.told(2), 5);
            Due.is("9 the one that held holds, light", x.told(3), 6);
            Due.is("9 the one that held holds, rate", x.told(4), 7);
        }
        String[] texts = {"rate 8", "taste 9", "light 7", "like 4 p<9", "mind 5 p<9"};
        int[][] due = {{0, 8, 18, 8}, {0, 9, 18, 10}, {0, 8, 7, 10}, {4, 8, 18, 10}, {-5, 8, 18, 10}};
        for (int k = 0; k < texts.length; k++) {
            Due.holds("9 a fault", Due.office(x, faulty[k % 4]) <= -10);
            Due.is("9 nothing of the faulty one comes along", Due.office(x, texts[k]), k + 1);
            Due.is("9 nothing of the faulty one, liking", x.of(0, 30), due[k][0]);
            for (int what = 2; what <= 4; what++) {
                Due.is("9 nothing of the faulty one, told " + what, x.told(what), due[k][what - 1]);
            }
        }
    }

    /** Long texts with a fault at their end, one behind the other: no room of the next one is used up by them. */
    private static void manyFaults() {
        ExemptBeauty x = new ExemptBeauty();
        x.person(0, 0, 0);
        for (int k = 0; k < 4; k++) {
            Due.is("9 fault", Due.office(x, ninetyNine() + "x"), -10 - 99);
        }
        Due.is("9 an office", Due.office(x, "like 3 p=1|t=2&p=0;mind 2 !(t<4|p=1);like 40 t>1&t<3"), 0);
        int[] due = {0, 0, 43, 0, -2, -2};
        for (int part = 0; part < 6; part++) {
            Due.is("3 liking of " + part, x.of(0, 30 + part), due[part]);
        }
    }

    private static void toldOutside() {
        ExemptBeauty x = new ExemptBeauty();
        int[] outside = {-1, 7, 8, MIN, MIN + 1, MAX - 1, MAX};
        for (int what : outside) {
            Due.is("10 told " + what, x.told(what), NONE);
        }
        Due.is("10 the first", x.told(0), 0);
        Due.is("10 the last", x.told(6), 0);
    }
}
