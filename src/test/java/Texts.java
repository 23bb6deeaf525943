import java.util.Random;

/** Texts of offices, right and broken. */
final class Texts {
    private static final String SIGNS = "likemndtasghr 0123456789!&|()<=>;ptkvahqx";

    private Texts() {
    }

    static String office(Random random) {
        StringBuilder text = new StringBuilder(clause(random));
        int clauses = random.nextInt(12);
        for (int c = 1; c < clauses; c++) {
            String next = ";" + clause(random);
            if (text.length() + next.length() <= 100) {
                text.append(next);
            }
        }
        return text.length() <= 100 ? text.toString() : "rate " + random.nextInt(100);
    }

    private static String number(Random random, int most) {
        int n = random.nextInt(most + 1);
        return n < 10 && random.nextBoolean() ? "0" + n : "" + n;
    }

    private static String clause(Random random) {
        switch (random.nextInt(9)) {
            case 0: return "taste " + number(random, random.nextInt(4) == 0 ? 99 : 20);
            case 1: return "light " + number(random, random.nextInt(4) == 0 ? 99 : 23);
            case 2: return "rate " + number(random, random.nextInt(4) == 0 ? 99 : 12);
            case 3: case 4: return "mind " + number(random, random.nextInt(4) == 0 ? 99 : 9) + " " + either(random, 0);
            default: return "like " + number(random, random.nextInt(4) == 0 ? 99 : 9) + " " + either(random, 0);
        }
    }

    private static String either(Random random, int depth) {
        String e = both(random, depth);
        return random.nextInt(3) == 0 ? e + "|" + both(random, depth) : e;
    }

    private static String both(Random random, int depth) {
        String t = part(random, depth);
        return random.nextInt(3) == 0 ? t + "&" + part(random, depth) : t;
    }

    /** Sometimes one too deep. */
    private static String part(Random random, int depth) {
        if (depth < 5 && random.nextInt(4) == 0) {
            return "!" + part(random, depth + 1);
        }
        if (depth < 5 && random.nextInt(4) == 0) {
            return "(" + either(random, depth + 1) + ")";
        }
        String letter = "" + "ptkvah".charAt(random.nextInt(6));
        String sign = "" + "<=>".charAt(random.nextInt(3));
        return letter + sign + number(random, letter.equals("h") ? 23 : random.nextInt(8) == 0 ? 99 : 9);
    }

    static String broken(Random random, String text) {
        StringBuilder s = new StringBuilder(text);
        int changes = 1 + random.nextInt(2);
        for (int k = 0; k < changes; k++) {
            int at = random.nextInt(s.length() + 1);
            char sign = SIGNS.charAt(random.nextInt(SIGNS.length()));
            switch (random.nextInt(4)) {
                case 0: s.setLength(at); break;
                case 1: s.insert(at, sign); break;
                case 2: s.append(sign); break;
                default:
                    if (at < s.length()) {
                        s.setCharAt(at, sign);
                    }
                    break;
            }
        }
        return s.length() > 100 ? s.substring(0, 100) : s.toString();
    }
}
