import java.math.BigInteger;
import java.util.ArrayList;
import java.util.List;

/**
 * A second telling of the document, as plain as can be: a town is copied whole for each question, kinds are
 * classes, offices are read as texts whenever they are asked, orders and pairs are all tried.
 */
final class Model {
    static final int NONE = -1, BAD = -2, STATE = -3, FULL = -4;
    static final long NO = Long.MIN_VALUE;

    private World now = new World();
    private World image = null;
    private final List<String> offices = new ArrayList<>();
    private String text = "";
    private final Object[] tapes = new Object[6];
    private final List<Integer> trace = new ArrayList<>();

    // ---- kinds

    private static class Person implements Cloneable {
        int i, kind, v, age;
        boolean left;
        int[] grace = new int[6], row = new int[4];
        List<Integer> trace;

        int ran(int body) {
            trace.add(body);
            return body;
        }

        int shows(int x) {
            ran(10);
            return x + i;
        }

        int pays(int x) {
            ran(11);
            return shows(x) - v;
        }

        int tells(int x) {
            ran(12);
            return pays(x) * 2;
        }

        int fine(World w, int part) {
            return grace[part] + w.glow() / 3 + w.liking(this, part);
        }

        Person copy() {
            try {
                Person other = (Person) clone();
                other.grace = grace.clone();
                other.row = row.clone();
                return other;
            } catch (CloneNotSupportedException e) {
                throw new IllegalStateException(e);
            }
        }
    }

    private static class Fading extends Person {
        @Override int pays(int x) {
            ran(20);
            return super.pays(x) ^ 6;
        }

        @Override int fine(World w, int part) {
            return super.fine(w, part) - age / 20;
        }
    }

    private static class Profile extends Person {
        @Override int shows(int x) {
            ran(30);
            return super.shows(x * 3);
        }

        @Override int fine(World w, int part) {
            return super.fine(w, part) + (w.hour % 2 == 0 && part < 3 ? 3 : 0);
        }
    }

    private static class Farmer extends Person {
        @Override int tells(int x) {
            ran(40);
            return super.tells(x) + pays(1);
        }

        @Override int fine(World w, int part) {
            return super.fine(w, part) + (part == 1 ? 5 : 0);
        }
    }

    private static final class Statue extends Fading {
        @Override int shows(int x) {
            ran(50);
            return -super.shows(x);
        }

        @Override int pays(int x) {
            ran(51);
            return super.pays(x + 1);
        }

        @Override int fine(World w, int part) {
            return grace[part] + w.liking(this, part) - age / 20;
        }
    }

    private static final class Young extends Profile {
        @Override int tells(int x) {
            ran(60);
            return super.tells(x - i);
        }

        @Override int fine(World w, int part) {
            return super.fine(w, part) + (age < 20 ? v : 0);
        }
    }

    private static final class Told extends Farmer {
        @Override int pays(int x) {
            ran(70);
            return super.pays(x) + super.shows(2);
        }

        @Override int shows(int x) {
            ran(71);
            return super.shows(x) ^ v;
        }

        @Override int fine(World w, int part) {
            return super.fine(w, part) + row[part % 4];
        }
    }

    private static Person ofKind(int kind) {
        switch (kind) {
            case 0: return new Person();
            case 1: return new Fading();
            case 2: return new Profile();
            case 3: return new Farmer();
            case 4: return new Statue();
            case 5: return new Young();
            default: return new Told();
        }
    }

    private static Class<?> classOf(int kind) {
        return ofKind(kind).getClass();
    }

    // ---- how all is

    private static final class World {
        List<Person> people = new ArrayList<>();
        int hour = 12, year = 0, holds = -1;
        String office = "";
        int tasteIs = -1;
        List<int[]> looks = new ArrayList<>(), plan = new ArrayList<>(), book = new ArrayList<>();

        World copy() {
            World w = new World();
            for (Person p : people) {
                w.people.add(p.copy());
            }
            w.hour = hour;
            w.year = year;
            w.holds = holds;
            w.office = office;
            w.tasteIs = tasteIs;
            w.looks.addAll(looks);
            w.plan.addAll(plan);
            w.book.addAll(book);
            return w;
        }

        boolean has(int p) {
            return p >= 0 && p < people.size();
        }

        int setting(String word, int without) {
            int n = without;
            for (String clause : office.split(";")) {
                if (clause.startsWith(word + " ")) {
                    n = Integer.parseInt(clause.substring(word.length() + 1));
                }
            }
            return n;
        }

        int taste() {
            return tasteIs >= 0 ? tasteIs : setting("taste", 8);
        }

        int light() {
            int n = setting("light", 18);
            return n > 23 ? 23 : n;
        }

        int rate() {
            return setting("rate", 10);
        }

        int glow() {
            int far = 0;
            while ((hour + far) % 24 != light() && (hour - far + 24) % 24 != light()) {
                far++;
            }
            return far > 9 ? 0 : 9 - far;
        }

        int liking(Person p, int part) {
            int sum = 0;
            for (String clause : office.split(";")) {
                if (clause.startsWith("like ") || clause.startsWith("mind ")) {
                    String[] parts = clause.split(" ");
                    if (either(parts[2], p, part)) {
                        sum += clause.charAt(0) == 'l' ? Integer.parseInt(parts[1]) : -Integer.parseInt(parts[1]);
                    }
                }
            }
            return sum;
        }

        private static int outside(String e, char sign) {
            int depth = 0;
            for (int i = 0; i < e.length(); i++) {
                depth += e.charAt(i) == '(' ? 1 : e.charAt(i) == ')' ? -1 : 0;
                if (depth == 0 && e.charAt(i) == sign) {
                    return i;
                }
            }
            return -1;
        }

        private boolean either(String e, Person p, int part) {
            int bar = outside(e, '|');
            if (bar >= 0) {
                return both(e.substring(0, bar), p, part) || either(e.substring(bar + 1), p, part);
            }
            return both(e, p, part);
        }

        private boolean both(String t, Person p, int part) {
            int and = outside(t, '&');
            if (and >= 0) {
                return one(t.substring(0, and), p, part) && both(t.substring(and + 1), p, part);
            }
            return one(t, p, part);
        }

        private boolean one(String f, Person p, int part) {
            if (f.charAt(0) == '!') {
                return !one(f.substring(1), p, part);
            }
            if (f.charAt(0) == '(') {
                return either(f.substring(1, f.length() - 1), p, part);
            }
            int n = Integer.parseInt(f.substring(2));
            int it = new int[] {p.i, part, p.kind, p.v, p.age / 10, hour}["ptkvah".indexOf(f.charAt(0))];
            return f.charAt(1) == '<' ? it < n : f.charAt(1) == '>' ? it > n : it == n;
        }

        int fine(int p, int part) {
            return people.get(p).fine(this, part);
        }

        boolean letOff(int p, int part) {
            return fine(p, part) >= taste();
        }

        int bits(int p) {
            int bits = 0;
            for (int t = 0; t < 6; t++) {
                bits += letOff(p, t) ? 1 << t : 0;
            }
            return bits;
        }

        int pays(int p) {
            int sum = 0;
            for (int t = 0; t < 6; t++) {
                sum += letOff(p, t) ? 0 : rate();
            }
            return people.get(p).left ? 0 : sum;
        }

        int all() {
            int sum = 0;
            for (int p = 0; p < people.size(); p++) {
                sum += pays(p);
            }
            return sum;
        }

        World goYear() {
            for (Person p : people) {
                if (p.age < 99) {
                    p.age++;
                    if (p.age == 40) {
                        p.grace[p.v % 6] = 0;
                    }
                }
            }
            year++;
            return this;
        }

        World behind(int n) {
            World w = copy();
            for (int y = 0; y < n; y++) {
                w.goYear();
            }
            return w;
        }

        World at(int h) {
            World w = copy();
            w.hour = h;
            return w;
        }

        World byTaste(int t) {
            World w = copy();
            w.tasteIs = t;
            return w;
        }

        boolean looksAreSo() {
            for (int[] look : looks) {
                if (behind(look[3]).letOff(look[0], look[1]) != (look[2] == 1)) {
                    return false;
                }
            }
            return true;
        }

        List<Integer> here() {
            List<Integer> who = new ArrayList<>();
            for (int p = 0; p < people.size(); p++) {
                if (!people.get(p).left) {
                    who.add(p);
                }
            }
            return who;
        }

        int jointly(int a, int b) {
            int sum = 0;
            for (int t = 0; t < 6; t++) {
                sum += letOff(a, t) || letOff(b, t) ? 0 : rate();
            }
            return sum;
        }
    }

    // ---- people, offices

    int person(int kind, int v, int age) {
        if (kind < 0 || kind > 6) {
            return NONE;
        }
        if (v < 0 || v > 9 || age < 0 || age > 99) {
            return BAD;
        }
        if (now.people.size() == 6) {
            return FULL;
        }
        Person p = ofKind(kind);
        p.i = now.people.size();
        p.kind = kind;
        p.v = v;
        p.age = age;
        p.trace = trace;
        p.grace = new int[] {v, v, v, v, v, v};
        now.people.add(p);
        return p.i;
    }

    int of(int person, int what) {
        if (!now.has(person)) {
            return -1001;
        }
        Person p = now.people.get(person);
        if (what >= 10 && what <= 15) {
            return p.grace[what - 10];
        }
        if (what >= 20 && what <= 25) {
            return now.fine(person, what - 20);
        }
        if (what >= 30 && what <= 35) {
            return now.liking(p, what - 30);
        }
        switch (what) {
            case 0: return p.kind;
            case 1: return p.v;
            case 2: return p.age;
            case 3: return p.left ? 1 : 0;
            case 4: return now.pays(person);
            case 5: return now.bits(person);
            case 6: return show(person);
            default: return -1001;
        }
    }

    private int show(int p) {
        for (int below = 1; below < 2000; below++) {
            for (int t = 0; t < 6; t++) {
                if (now.taste() - now.fine(p, t) == below) {
                    return t;
                }
            }
        }
        return -5;
    }

    int grace(int person, int part, int n) {
        if (!now.has(person) || part < 0 || part > 5) {
            return NONE;
        }
        if (n < 0 || n > 9) {
            return BAD;
        }
        int was = now.people.get(person).grace[part];
        now.people.get(person).grace[part] = n;
        return was;
    }

    int leave(int person, boolean is) {
        if (!now.has(person)) {
            return NONE;
        }
        int was = now.people.get(person).left ? 1 : 0;
        now.people.get(person).left = is;
        return was;
    }

    int row(int person, int k, int n) {
        if (!now.has(person) || k < 0 || k > 3) {
            return NONE;
        }
        if (n < 0 || n > 9) {
            return BAD;
        }
        if (!(now.people.get(person) instanceof Told)) {
            return STATE;
        }
        int was = now.people.get(person).row[k];
        now.people.get(person).row[k] = n;
        return was;
    }

    int hour(int n) {
        if (n < 0 || n > 23) {
            return BAD;
        }
        int was = now.hour;
        now.hour = n;
        return was;
    }

    int feed(int sign) {
        if (sign < 0 || sign > 127) {
            return BAD;
        }
        if (text.length() == 100) {
            return FULL;
        }
        text += (char) sign;
        return text.length();
    }

    int office() {
        if (offices.size() == 6) {
            return FULL;
        }
        String t = text;
        text = "";
        for (int n = 1; n <= t.length(); n++) {
            if (endings(t.substring(0, n)) == 0) {
                return -10 - (n - 1);
            }
        }
        if (endings(t) != 2) {
            return -10 - t.length();
        }
        offices.add(t);
        now.office = t;
        now.holds = offices.size() - 1;
        return now.holds;
    }

    /** 0: no office begins so; 1: some begin so; 2: it is one. */
    static int endings(String t) {
        String[] clauses = t.split(";", -1);
        if (clauses.length > 10) {
            return 0;
        }
        for (int c = 0; c < clauses.length - 1; c++) {
            if (clauseEndings(clauses[c]) != 2) {
                return 0;
            }
        }
        return clauseEndings(clauses[clauses.length - 1]);
    }

    private static int clauseEndings(String t) {
        for (String word : new String[] {"like ", "mind ", "taste ", "light ", "rate "}) {
            if (word.startsWith(t)) {
                return 1;
            }
            if (t.startsWith(word)) {
                String rest = t.substring(word.length());
                if (!word.equals("like ") && !word.equals("mind ")) {
                    return rest.matches("[0-9]{1,2}") ? 2 : 0;
                }
                if (rest.matches("[0-9]{1,2}") || rest.matches("[0-9]{1,2} ")) {
                    return 1;
                }
                return rest.matches("(?s)[0-9]{1,2} .*") ? eitherEndings(rest.substring(rest.indexOf(' ') + 1)) : 0;
            }
        }
        return 0;
    }

    /** Byte by byte: what is open ('(' and '!'), and whether a part is due, in a test, or has ended. */
    private static int eitherEndings(String e) {
        String open = "";
        String mode = "due";
        for (char c : e.toCharArray()) {
            String next = "";
            if (mode.equals("due")) {
                if ((c == '(' || c == '!') && open.length() < 4) {
                    open += c;
                    next = "due";
                } else if ("ptkvah".indexOf(c) >= 0) {
                    next = "letter";
                }
            } else if (mode.equals("letter")) {
                next = "<=>".indexOf(c) >= 0 ? "sign" : "";
            } else if (mode.equals("sign")) {
                next = c >= '0' && c <= '9' ? "one" : "";
            } else if (mode.equals("one") && c >= '0' && c <= '9') {
                next = "ended";
            } else {
                open = open.replaceAll("!+$", "");
                if (c == '&' || c == '|') {
                    next = "due";
                } else if (c == ')' && open.endsWith("(")) {
                    open = open.substring(0, open.length() - 1).replaceAll("!+$", "");
                    next = "ended";
                }
            }
            if (next.isEmpty()) {
                return 0;
            }
            mode = next;
        }
        boolean isEnd = mode.equals("one") || mode.equals("ended");
        return isEnd && !open.contains("(") ? 2 : 1;
    }

    int told(int what) {
        switch (what) {
            case 0: return now.year;
            case 1: return now.hour;
            case 2: return now.taste();
            case 3: return now.light();
            case 4: return now.rate();
            case 5: return now.glow();
            case 6: return now.all();
            default: return NONE;
        }
    }

    // ---- years, hours

    int pass(int n) {
        if (n < 0 || n > 60) {
            return BAD;
        }
        if (now.year + n > 9999) {
            return STATE;
        }
        now = now.behind(n);
        return now.year;
    }

    int on(int n, int what) {
        boolean known = what == 0 || what >= 10 && what <= 15 && now.has(what - 10) || what >= 20 && what <= 25 && now.has(what - 20);
        if (!known) {
            return NONE;
        }
        if (n < 0 || n > 60) {
            return BAD;
        }
        World then = now.behind(n);
        return what == 0 ? then.all() : what < 20 ? then.pays(what - 10) : then.bits(what - 20);
    }

    int seenAt(int person, int hour) {
        if (!now.has(person)) {
            return NONE;
        }
        return hour < 0 || hour > 23 ? BAD : now.at(hour).pays(person);
    }

    int when(int person, int what) {
        if (!now.has(person) || what < 0 || what > 1) {
            return NONE;
        }
        if (what == 1) {
            for (int n = 1; n <= 60; n++) {
                if (now.behind(n).pays(person) > now.behind(n - 1).pays(person)) {
                    return n;
                }
            }
            return -5;
        }
        int best = 0;
        for (int h = 0; h < 24; h++) {
            best = now.at(h).pays(person) < now.at(best).pays(person) ? h : best;
        }
        return best;
    }

    private List<Integer> bestOrder;
    private int bestPaid;

    private void orders(List<Integer> order, List<Integer> here, int[][] pays, int paid) {
        if (order.size() == here.size()) {
            if (bestOrder == null || paid < bestPaid) {
                bestOrder = new ArrayList<>(order);
                bestPaid = paid;
            }
            return;
        }
        for (int p : here) {
            if (!order.contains(p)) {
                order.add(p);
                orders(order, here, pays, paid + pays[order.size() - 1][p]);
                order.remove(order.size() - 1);
            }
        }
    }

    int line(int k) {
        if (k < -1 || k > 5) {
            return NONE;
        }
        int[][] pays = new int[6][6];
        for (int s = 0; s < 6; s++) {
            World then = now.at((now.hour + s) % 24);
            for (int p : now.here()) {
                pays[s][p] = then.pays(p);
            }
        }
        bestOrder = null;
        bestPaid = 0;
        orders(new ArrayList<>(), now.here(), pays, 0);
        return k < 0 ? bestPaid : k < bestOrder.size() ? bestOrder.get(k) : -5;
    }

    // ---- pairs, tastes

    int jointly(int one, int other) {
        if (!now.has(one) || !now.has(other)) {
            return NONE;
        }
        return one == other ? BAD : now.jointly(one, other);
    }

    private int[] bestRow;

    /** All rows of partners, 6 standing for nobody, in the order of rows. */
    private void rows(int[] row, int p, int[][] joint) {
        if (p == 6) {
            int paid = 0;
            for (int a = 0; a < 6; a++) {
                int b = row[a];
                if (b < 6 && row[b] != a) {
                    return;
                }
                paid += b == 6 ? joint[a][a] : a < b ? joint[a][b] : 0;
            }
            if (bestRow == null || paid < bestPaid) {
                bestRow = row.clone();
                bestPaid = paid;
            }
            return;
        }
        List<Integer> here = now.here();
        for (int b = 0; b <= 6; b++) {
            boolean isFree = b == 6 || b != p && here.contains(p) && here.contains(b) && (b > p || row[b] == p);
            if (isFree) {
                row[p] = b;
                rows(row, p + 1, joint);
            }
        }
    }

    int pairs(int what) {
        if (what != 0 && (what < 10 || what > 15 || !now.has(what - 10))) {
            return NONE;
        }
        int[][] joint = new int[6][6];
        for (int a : now.here()) {
            for (int b : now.here()) {
                joint[a][b] = a == b ? now.pays(a) : now.jointly(a, b);
            }
        }
        bestRow = null;
        rows(new int[6], 0, joint);
        if (what == 0) {
            return bestPaid;
        }
        return bestRow[what - 10] == 6 ? -5 : bestRow[what - 10];
    }

    int raises(int q) {
        if (q < 0 || q > 9999) {
            return BAD;
        }
        for (int t = 0; t <= 60; t++) {
            if (now.byTaste(t).all() >= q) {
                return t;
            }
        }
        return -5;
    }

    // ---- looks, odds

    int see(int person, int part, boolean isOff, int n) {
        if (person == -1) {
            now.looks.clear();
            return 0;
        }
        if (!now.has(person) || part < 0 || part > 5) {
            return NONE;
        }
        if (n < 0 || n > 20) {
            return BAD;
        }
        if (now.looks.size() == 6) {
            return FULL;
        }
        now.looks.add(new int[] {person, part, isOff ? 1 : 0, n});
        return now.looks.size();
    }

    private static int manyOrFirst(List<Integer> fit, int what) {
        return what == 0 ? fit.size() : fit.isEmpty() ? -5 : fit.get(0);
    }

    int tastes(int what) {
        if (what < 0 || what > 1) {
            return NONE;
        }
        List<Integer> fit = new ArrayList<>();
        for (int t = 0; t <= 60; t++) {
            if (now.byTaste(t).looksAreSo()) {
                fit.add(t);
            }
        }
        return manyOrFirst(fit, what);
    }

    int graces(int person, int part, int what) {
        if (!now.has(person) || part < 0 || part > 5 || what < 0 || what > 1) {
            return NONE;
        }
        List<Integer> fit = new ArrayList<>();
        for (int n = 0; n <= 9; n++) {
            World w = now.copy();
            w.people.get(person).grace[part] = n;
            if (w.looksAreSo()) {
                fit.add(n);
            }
        }
        return manyOrFirst(fit, what);
    }

    int can(int person, int what) {
        if (!now.has(person) || what < 0 || what > 1) {
            return NONE;
        }
        List<Integer> fit = new ArrayList<>();
        for (int v = 0; v <= 9; v++) {
            World w = now.copy();
            w.people.get(person).v = v;
            if (w.looksAreSo()) {
                fit.add(v);
            }
        }
        return manyOrFirst(fit, what);
    }

    private static long fraction(int above, int below, int side) {
        int g = BigInteger.valueOf(above).gcd(BigInteger.valueOf(below)).intValue();
        return side == 0 ? above / g : below / g;
    }

    long odds(int person, int part, int side) {
        if (!now.has(person) || part < 0 || part > 5 || side < 0 || side > 1) {
            return NO;
        }
        int many = 0;
        for (int h = 0; h < 24; h++) {
            many += now.at(h).letOff(person, part) ? 1 : 0;
        }
        return fraction(many, 24, side);
    }

    long mean(int hour, int side) {
        if (hour < 0 || hour > 23 || side < 0 || side > 1 || now.people.isEmpty()) {
            return NO;
        }
        return fraction(now.at(hour).all(), now.people.size(), side);
    }

    // ---- plans, books

    int plan(int what, int n) {
        if (what == -1) {
            now.plan.clear();
            return 0;
        }
        if (what < 0 || what > 3 || what == 2 && !now.has(n)) {
            return NONE;
        }
        if (what == 1 && (n < 0 || n > 23)) {
            return BAD;
        }
        if (now.plan.size() == 10) {
            return FULL;
        }
        now.plan.add(new int[] {what, n});
        return now.plan.size();
    }

    int ends(int what) {
        if (what < 0 || what > 1) {
            return NONE;
        }
        World w = now.copy();
        for (int[] row : now.plan) {
            switch (row[0]) {
                case 0: w.goYear(); break;
                case 1: w.hour = row[1]; break;
                case 2: w.people.get(row[1]).left = true; break;
                default: w.hour = w.hour == 23 ? 0 : w.hour + 1; break;
            }
        }
        if (what == 0) {
            return w.all();
        }
        int many = 0;
        for (int p : w.here()) {
            many += Integer.bitCount(w.bits(p));
        }
        return many;
    }

    int book(int person, int pays) {
        if (person == -1) {
            now.book.clear();
            return 0;
        }
        if (!now.has(person)) {
            return NONE;
        }
        if (pays < 0 || pays > 999) {
            return BAD;
        }
        if (now.book.size() == 8) {
            return FULL;
        }
        now.book.add(new int[] {person, pays});
        return now.book.size();
    }

    int looked() {
        for (int r = 0; r < now.book.size(); r++) {
            if (now.pays(now.book.get(r)[0]) != now.book.get(r)[1]) {
                return r;
            }
        }
        return -5;
    }

    // ---- judging, the image, acts, tapes

    int judge(int tape, int i) {
        if (tape < 0 || tape > 5) {
            return NONE;
        }
        if (tapes[tape] != null && !(tapes[tape] instanceof int[])) {
            return -12;
        }
        int[] row = tapes[tape] == null ? new int[0] : (int[]) tapes[tape];
        for (int p = 0; p < now.people.size(); p++) {
            if (i < 0 || (long) i + p >= row.length) {
                return 100 + p;
            }
            if (row[i + p] != now.pays(p)) {
                return p;
            }
        }
        return -5;
    }

    int image() {
        image = now.copy();
        return now.people.size();
    }

    int undo() {
        if (image == null) {
            return STATE;
        }
        now = image.copy();
        return now.people.size();
    }

    int act(int person, int act, int x) {
        trace.clear();
        if (!now.has(person) || act < 0 || act > 2) {
            return 0;
        }
        Person p = now.people.get(person);
        return act == 0 ? p.shows(x) : act == 1 ? p.pays(x) : p.tells(x);
    }

    int trace(int i) {
        return i < 0 || i >= 20 || i >= trace.size() ? NONE : trace.get(i);
    }

    int taken(int person, int k) {
        if (k < 0 || k > 6) {
            return BAD;
        }
        if (!now.has(person)) {
            return -11;
        }
        return classOf(k).isInstance(now.people.get(person)) ? now.people.get(person).kind : -12;
    }

    int count(int what) {
        switch (what) {
            case 0: return now.people.size();
            case 1: return offices.size();
            case 2: return now.looks.size();
            case 3: return now.plan.size();
            case 4: return now.book.size();
            case 5: return text.length();
            case 6: return trace.size();
            default: return BAD;
        }
    }

    int tape(int tape, int sort, int n) {
        if (tape < 0 || tape > 5) {
            return NONE;
        }
        if (sort == -1) {
            tapes[tape] = null;
            return 1;
        }
        if (sort < 0 || sort > 4 || n > 60) {
            return BAD;
        }
        if (n < 0) {
            return -14;
        }
        switch (sort) {
            case 0: tapes[tape] = new byte[n]; break;
            case 1: tapes[tape] = new short[n]; break;
            case 2: tapes[tape] = new int[n]; break;
            case 3: tapes[tape] = new long[n]; break;
            default: tapes[tape] = new boolean[n]; break;
        }
        return 1;
    }

    int item(int tape, int i, long v) {
        if (tape < 0 || tape > 5) {
            return NONE;
        }
        Object row = tapes[tape];
        if (row == null) {
            return -11;
        }
        if (i < 0 || i >= java.lang.reflect.Array.getLength(row)) {
            return -13;
        }
        if (row instanceof byte[]) {
            ((byte[]) row)[i] = (byte) v;
        } else if (row instanceof short[]) {
            ((short[]) row)[i] = (short) v;
        } else if (row instanceof int[]) {
            ((int[]) row)[i] = (int) v;
        } else if (row instanceof long[]) {
            ((long[]) row)[i] = v;
        } else {
            ((boolean[]) row)[i] = v != 0;
        }
        return 1;
    }

    long read(int tape, int i) {
        if (tape < 0 || tape > 5 || tapes[tape] == null || i < 0 || i >= java.lang.reflect.Array.getLength(tapes[tape])) {
            return NO;
        }
        if (tapes[tape] instanceof boolean[]) {
            return ((boolean[]) tapes[tape])[i] ? 1 : 0;
        }
        return java.lang.reflect.Array.getLong(tapes[tape], i);
    }

    int shift(int tape, int i, int other, int j, int n) {
        if (tape < 0 || tape > 5 || other < 0 || other > 5) {
            return NONE;
        }
        Object from = tapes[tape];
        Object to = tapes[other];
        if (from == null || to == null) {
            return -11;
        }
        try {
            System.arraycopy(from, i, to, j, n);
            return n;
        } catch (ArrayStoreException e) {
            return -12;
        } catch (IndexOutOfBoundsException e) {
            return -13;
        }
    }
}
