import java.util.Arrays;

/** Ratepayers who are gone over part by part and let off what is fine. */
public final class ExemptBeauty {
    public static final int NONE = -1, BAD = -2, STATE = -3, FULL = -4;
    public static final long NO = Long.MIN_VALUE;

    private static final int NOTHING = -11, CAST = -12, PLACE = -13, SIZE = -14;
    private static final int NOBODY = -5, NO_FACT = -1001, BEFORE_FAULT = -10, ROW_ENDED = 100;
    private static final int PERSON = 0, FADING = 1, PROFILE = 2, FARMER = 3, STATUE = 4, YOUNG = 5, TOLD = 6;
    private static final int KINDS = 7, PEOPLE = 6, PARTS = 6, ROW = 4, DIGITS = 10, HOURS = 24, OLDEST = 99;
    private static final int YEARS = 60, LOOK_YEARS = 20, LAST_YEAR = 9999, TASTES = 61, MOST_RAISED = 9999;
    private static final int OFFICES = 6, TEXT = 100, CLAUSES = 10, NESTED = 4, SIGNS = 128;
    private static final int LOOKS = 6, PLANNED = 10, BOOKED = 8, MOST_BOOKED = 999;
    private static final int YEAR_GOES = 0, HOUR_SET = 1, ONE_LEAVES = 2, HOUR_GOES = 3, GOINGS = 4;
    private static final int SHOWS = 0, PAYS = 1, TELLS = 2, ACTS = 3, TRACED = 20, DEEPEST = 40;
    private static final int TAPES = 6, SORTS = 5, LONGEST = 60, EMPTY = -1, INTS = 2;
    private static final int[] ABOVE = {-1, PERSON, PERSON, PERSON, FADING, PROFILE, FARMER};
    /** The body's number by kind and act; 0 where a kind has none of its own. */
    private static final int[] BODIES = {
        10, 11, 12,
        0, 20, 0,
        30, 0, 0,
        0, 0, 40,
        50, 51, 0,
        0, 0, 60,
        71, 70, 0
    };

    private final Town now = new Town();
    private final Town kept = new Town();
    private boolean isKept = false;
    private final Office blank = new Office();
    private final Office[] offices = new Office[OFFICES];
    private int officeCount = 0;
    private final Reader reader = new Reader();
    private final Asker asker = new Asker();
    private final Actor actor = new Actor();
    private final Tape[] tapes = new Tape[TAPES];

    public ExemptBeauty() {
        for (int t = 0; t < TAPES; t++) {
            tapes[t] = new Tape();
        }
    }

    // ---- people, offices

    public int person(int kind, int v, int age) {
        if (kind < 0 || kind >= KINDS) {
            return NONE;
        }
        if (v < 0 || v >= DIGITS || age < 0 || age > OLDEST) {
            return BAD;
        }
        if (now.size >= PEOPLE) {
            return FULL;
        }
        now.people[now.size].begin(now.size, kind, v, age);
        now.size++;
        return now.size - 1;
    }

    public int of(int person, int what) {
        if (!isPerson(person)) {
            return NO_FACT;
        }
        Person one = now.people[person];
        Office office = holding();
        if (what >= 10 && what < 10 + PARTS) {
            return one.graces[what - 10];
        }
        if (what >= 20 && what < 20 + PARTS) {
            return office.fine(one, what - 20, now.hour);
        }
        if (what >= 30 && what < 30 + PARTS) {
            return office.liking(one, what - 30, now.hour);
        }
        switch (what) {
            case 0: return one.kind;
            case 1: return one.v;
            case 2: return one.age;
            case 3: return one.isGone ? 1 : 0;
            case 4: return office.pays(one, now.hour);
            case 5: return office.partsLetOff(one, now.hour);
            case 6: return office.partToShow(one, now.hour);
            default: return NO_FACT;
        }
    }

    public int grace(int person, int part, int n) {
        if (!isPerson(person) || !isPart(part)) {
            return NONE;
        }
        if (n < 0 || n >= DIGITS) {
            return BAD;
        }
        int[] graces = now.people[person].graces;
        int was = graces[part];
        graces[part] = n;
        return was;
    }

    public int leave(int person, boolean is) {
        if (!isPerson(person)) {
            return NONE;
        }
        boolean was = now.people[person].isGone;
        now.people[person].isGone = is;
        return was ? 1 : 0;
    }

    public int row(int person, int k, int n) {
        if (!isPerson(person) || k < 0 || k >= ROW) {
            return NONE;
        }
        if (n < 0 || n >= DIGITS) {
            return BAD;
        }
        Person one = now.people[person];
        if (one.kind != TOLD) {
            return STATE;
        }
        int was = one.row[k];
        one.row[k] = n;
        return was;
    }

    public int hour(int n) {
        if (!isHour(n)) {
            return BAD;
        }
        int was = now.hour;
        now.hour = n;
        return was;
    }

    public int feed(int sign) {
        if (sign < 0 || sign >= SIGNS) {
            return BAD;
        }
        if (reader.length >= TEXT) {
            return FULL;
        }
        reader.text[reader.length] = sign;
        reader.length++;
        return reader.length;
    }

    public int office() {
        if (officeCount >= OFFICES) {
            return FULL;
        }
        boolean isOffice = reader.readsOffice();
        reader.length = 0;
        if (!isOffice) {
            return BEFORE_FAULT - reader.at;
        }
        offices[officeCount] = reader.handOver();
        now.holds = officeCount;
        officeCount++;
        return now.holds;
    }

    public int told(int what) {
        Office office = holding();
        switch (what) {
            case 0: return now.year;
            case 1: return now.hour;
            case 2: return office.taste;
            case 3: return office.light;
            case 4: return office.rate;
            case 5: return office.glow(now.hour);
            case 6: return paidByAll(now.hour);
            default: return NONE;
        }
    }

    // ---- years, hours

    public int pass(int n) {
        if (!isYears(n)) {
            return BAD;
        }
        if (now.year + n > LAST_YEAR) {
            return STATE;
        }
        for (int p = 0; p < now.size; p++) {
            now.people[p].growOlder(n);
        }
        now.year += n;
        return now.year;
    }

    public int on(int n, int what) {
        boolean isPays = isPerson(what - 10);
        boolean isLetOff = isPerson(what - 20);
        if (what != 0 && !isPays && !isLetOff) {
            return NONE;
        }
        if (!isYears(n)) {
            return BAD;
        }
        Office office = holding();
        if (isPays) {
            return office.pays(asker.older(now.people[what - 10], n), now.hour);
        }
        if (isLetOff) {
            return office.partsLetOff(asker.older(now.people[what - 20], n), now.hour);
        }
        int sum = 0;
        for (int p = 0; p < now.size; p++) {
            sum += office.pays(asker.older(now.people[p], n), now.hour);
        }
        return sum;
    }

    public int seenAt(int person, int hour) {
        if (!isPerson(person)) {
            return NONE;
        }
        if (!isHour(hour)) {
            return BAD;
        }
        return holding().pays(now.people[person], hour);
    }

    public int when(int person, int what) {
        if (!isPerson(person) || !isChoice(what)) {
            return NONE;
        }
        Person one = now.people[person];
        if (what == 0) {
            return asker.bestHour(holding(), one);
        }
        return asker.firstRise(holding(), one, now.hour);
    }

    public int line(int k) {
        if (k < -1 || k >= PEOPLE) {
            return NONE;
        }
        int many = asker.lineUp(now, holding());
        return k < 0 ? asker.least[0] : asker.inLine(k, many);
    }

    // ---- pairs, tastes

    public int jointly(int one, int other) {
        if (!isPerson(one) || !isPerson(other)) {
            return NONE;
        }
        if (one == other) {
            return BAD;
        }
        Office office = holding();
        asker.fillFines(now, office, now.hour);
        return asker.paidByTwo(office, one, other);
    }

    public int pairs(int what) {
        if (what != 0 && !isPerson(what - 10)) {
            return NONE;
        }
        int out = asker.pairUp(now, holding());
        return what == 0 ? asker.least[out] : asker.partner(holding(), out, what - 10);
    }

    public int raises(int q) {
        if (q < 0 || q > MOST_RAISED) {
            return BAD;
        }
        Office office = holding();
        asker.fillFines(now, office, now.hour);
        for (int taste = 0; taste < TASTES; taste++) {
            if (asker.partsBelow(now, taste) * office.rate >= q) {
                return taste;
            }
        }
        return NOBODY;
    }

    // ---- looks, odds

    public int see(int person, int part, boolean isOff, int n) {
        if (person == -1) {
            now.looks.size = 0;
            return 0;
        }
        if (!isPerson(person) || !isPart(part)) {
            return NONE;
        }
        if (n < 0 || n > LOOK_YEARS) {
            return BAD;
        }
        if (now.looks.isFull()) {
            return FULL;
        }
        return now.looks.put(person, part, isOff ? 1 : 0, n);
    }

    public int tastes(int what) {
        if (!isChoice(what)) {
            return NONE;
        }
        asker.fillLooks(now, holding());
        int many = 0;
        int first = NOBODY;
        for (int taste = TASTES - 1; taste >= 0; taste--) {
            if (asker.areLooksSo(now.looks, taste)) {
                many++;
                first = taste;
            }
        }
        return what == 0 ? many : first;
    }

    public int graces(int person, int part, int what) {
        if (!isPerson(person) || !isPart(part) || !isChoice(what)) {
            return NONE;
        }
        Person one = now.people[person];
        int was = one.graces[part];
        int many = 0;
        int first = NOBODY;
        for (int n = DIGITS - 1; n >= 0; n--) {
            one.graces[part] = n;
            if (asker.areLooksSoBy(now, holding())) {
                many++;
                first = n;
            }
        }
        one.graces[part] = was;
        return what == 0 ? many : first;
    }

    public int can(int person, int what) {
        if (!isPerson(person) || !isChoice(what)) {
            return NONE;
        }
        Person one = now.people[person];
        int was = one.v;
        int many = 0;
        int first = NOBODY;
        for (int v = DIGITS - 1; v >= 0; v--) {
            one.v = v;
            if (asker.areLooksSoBy(now, holding())) {
                many++;
                first = v;
            }
        }
        one.v = was;
        return what == 0 ? many : first;
    }

    public long odds(int person, int part, int side) {
        if (!isPerson(person) || !isPart(part) || !isChoice(side)) {
            return NO;
        }
        Office office = holding();
        int many = 0;
        for (int hour = 0; hour < HOURS; hour++) {
            if (office.fine(now.people[person], part, hour) >= office.taste) {
                many++;
            }
        }
        return sideOfFraction(many, HOURS, side);
    }

    public long mean(int hour, int side) {
        if (!isHour(hour) || !isChoice(side) || now.size <= 0) {
            return NO;
        }
        return sideOfFraction(paidByAll(hour), now.size, side);
    }

    // ---- plans, books

    public int plan(int what, int n) {
        if (what == -1) {
            now.plan.size = 0;
            return 0;
        }
        if (what < 0 || what >= GOINGS || (what == ONE_LEAVES && !isPerson(n))) {
            return NONE;
        }
        if (what == HOUR_SET && !isHour(n)) {
            return BAD;
        }
        if (now.plan.isFull()) {
            return FULL;
        }
        return now.plan.put(what, n, 0, 0);
    }

    public int ends(int what) {
        if (!isChoice(what)) {
            return NONE;
        }
        Office office = holding();
        int sum = 0;
        for (int p = 0; p < now.size; p++) {
            int hour = asker.goByPlan(now, now.people[p]);
            if (what == 0) {
                sum += office.pays(asker.guess, hour);
            } else if (!asker.guess.isGone) {
                sum += Integer.bitCount(office.partsLetOff(asker.guess, hour));
            }
        }
        return sum;
    }

    public int book(int person, int pays) {
        if (person == -1) {
            now.book.size = 0;
            return 0;
        }
        if (!isPerson(person)) {
            return NONE;
        }
        if (pays < 0 || pays > MOST_BOOKED) {
            return BAD;
        }
        if (now.book.isFull()) {
            return FULL;
        }
        return now.book.put(person, pays, 0, 0);
    }

    public int looked() {
        for (int r = 0; r < now.book.size; r++) {
            int person = now.book.cell(r, 0);
            if (isPerson(person) && holding().pays(now.people[person], now.hour) != now.book.cell(r, 1)) {
                return r;
            }
        }
        return NOBODY;
    }

    // ---- judging, the image, acts, tapes

    public int judge(int tape, int i) {
        if (!isTape(tape)) {
            return NONE;
        }
        Tape told = tapes[tape];
        if (told.sort != EMPTY && told.sort != INTS) {
            return CAST;
        }
        for (int p = 0; p < now.size; p++) {
            if (i < 0 || p >= told.length - i) {
                return ROW_ENDED + p;
            }
            if (told.items[i + p] != holding().pays(now.people[p], now.hour)) {
                return p;
            }
        }
        return NOBODY;
    }

    public int image() {
        kept.copyFrom(now);
        isKept = true;
        return now.size;
    }

    public int undo() {
        if (!isKept) {
            return STATE;
        }
        now.copyFrom(kept);
        return now.size;
    }

    public int act(int person, int act, int x) {
        actor.forget();
        if (!isPerson(person) || act < 0 || act >= ACTS) {
            return 0;
        }
        return actor.begin(now.people[person], act, x);
    }

    public int trace(int i) {
        if (i < 0 || i >= actor.ran || i >= TRACED) {
            return NONE;
        }
        return actor.bodies[i];
    }

    public int taken(int person, int k) {
        if (k < 0 || k >= KINDS) {
            return BAD;
        }
        if (!isPerson(person)) {
            return NOTHING;
        }
        int kind = now.people[person].kind;
        return isUnder(kind, k) ? kind : CAST;
    }

    public int count(int what) {
        switch (what) {
            case 0: return now.size;
            case 1: return officeCount;
            case 2: return now.looks.size;
            case 3: return now.plan.size;
            case 4: return now.book.size;
            case 5: return reader.length;
            case 6: return actor.ran;
            default: return BAD;
        }
    }

    public int tape(int tape, int sort, int n) {
        if (!isTape(tape)) {
            return NONE;
        }
        if (sort == EMPTY) {
            tapes[tape].become(EMPTY, 0);
            return 1;
        }
        if (sort < 0 || sort >= SORTS || n > LONGEST) {
            return BAD;
        }
        if (n < 0) {
            return SIZE;
        }
        tapes[tape].become(sort, n);
        return 1;
    }

    public int item(int tape, int i, long v) {
        if (!isTape(tape)) {
            return NONE;
        }
        Tape one = tapes[tape];
        if (one.sort == EMPTY) {
            return NOTHING;
        }
        if (i < 0 || i >= one.length) {
            return PLACE;
        }
        one.items[i] = one.fitted(v);
        return 1;
    }

    public long read(int tape, int i) {
        if (!isTape(tape)) {
            return NO;
        }
        Tape one = tapes[tape];
        return i < 0 || i >= one.length ? NO : one.items[i];
    }

    public int shift(int tape, int i, int other, int j, int n) {
        if (!isTape(tape) || !isTape(other)) {
            return NONE;
        }
        Tape from = tapes[tape];
        Tape to = tapes[other];
        if (from.sort == EMPTY || to.sort == EMPTY) {
            return NOTHING;
        }
        if (from.sort != to.sort) {
            return CAST;
        }
        // n is taken from the lengths, as i and n together could wrap
        if (n < 0 || i < 0 || j < 0 || i > from.length - n || j > to.length - n) {
            return PLACE;
        }
        System.arraycopy(from.items, i, to.items, j, n);
        return n;
    }

    // ---- helpers

    private boolean isPerson(int p) {
        return p >= 0 && p < now.size && p < PEOPLE;
    }

    private static boolean isPart(int part) {
        return part >= 0 && part < PARTS;
    }

    private static boolean isHour(int n) {
        return n >= 0 && n < HOURS;
    }

    private static boolean isYears(int n) {
        return n >= 0 && n <= YEARS;
    }

    private static boolean isTape(int tape) {
        return tape >= 0 && tape < TAPES;
    }

    /** Many calls ask one of two things: 0 or 1. */
    private static boolean isChoice(int what) {
        return what == 0 || what == 1;
    }

    private static boolean isUnder(int kind, int above) {
        int k = kind;
        for (int step = 0; step < KINDS && k >= 0 && k < KINDS; step++) {
            if (k == above) {
                return true;
            }
            k = ABOVE[k];
        }
        return false;
    }

    private Office holding() {
        int holds = now.holds;
        if (holds < 0 || holds >= officeCount || holds >= OFFICES || offices[holds] == null) {
            return blank;
        }
        return offices[holds];
    }

    private int paidByAll(int hour) {
        Office office = holding();
        int sum = 0;
        for (int p = 0; p < now.size; p++) {
            sum += office.pays(now.people[p], hour);
        }
        return sum;
    }

    private static long sideOfFraction(int above, int below, int side) {
        int common = above;
        int rest = below;
        for (int step = 0; step < 64 && rest != 0; step++) {
            int next = common % rest;
            common = rest;
            rest = next;
        }
        if (common == 0) {
            return NO;
        }
        return side == 0 ? above / common : below / common;
    }

    private static final class Person {
        int number;
        int kind;
        int v;
        int age;
        boolean isGone;
        final int[] graces = new int[PARTS];
        final int[] row = new int[ROW];

        void begin(int itsNumber, int itsKind, int itsV, int itsAge) {
            number = itsNumber;
            kind = itsKind;
            v = itsV;
            age = itsAge;
            isGone = false;
            Arrays.fill(graces, itsV);
            Arrays.fill(row, 0);
        }

        void copyFrom(Person other) {
            number = other.number;
            kind = other.kind;
            v = other.v;
            age = other.age;
            isGone = other.isGone;
            System.arraycopy(other.graces, 0, graces, 0, PARTS);
            System.arraycopy(other.row, 0, row, 0, ROW);
        }

        void growOlder(int years) {
            for (int y = 0; y < years && age < OLDEST; y++) {
                age++;
                if (age == 40 && v >= 0) {
                    graces[v % PARTS] = 0;
                }
            }
        }
    }

    /** Rows told by hand: looks, the plan or the book. */
    private static final class Rows {
        private static final int WIDTH = 4;
        final int most;
        final int[] cells;
        int size = 0;

        Rows(int most) {
            this.most = most < 0 ? 0 : most;
            this.cells = new int[this.most * WIDTH];
        }

        boolean isFull() {
            return size >= most;
        }

        int put(int a, int b, int c, int d) {
            int at = size * WIDTH;
            if (at + WIDTH <= cells.length) {
                cells[at] = a;
                cells[at + 1] = b;
                cells[at + 2] = c;
                cells[at + 3] = d;
                size++;
            }
            return size;
        }

        int cell(int r, int column) {
            int at = r * WIDTH + column;
            return at < 0 || at >= cells.length ? 0 : cells[at];
        }

        void copyFrom(Rows other) {
            System.arraycopy(other.cells, 0, cells, 0, Math.min(cells.length, other.cells.length));
            size = other.size;
        }
    }

    /** All that the image keeps. */
    private static final class Town {
        final Person[] people = new Person[PEOPLE];
        int size = 0;
        int hour = 12;
        int year = 0;
        int holds = -1;
        final Rows looks = new Rows(ExemptBeauty.LOOKS);
        final Rows plan = new Rows(PLANNED);
        final Rows book = new Rows(BOOKED);

        Town() {
            for (int p = 0; p < PEOPLE; p++) {
                people[p] = new Person();
            }
        }

        void copyFrom(Town other) {
            for (int p = 0; p < PEOPLE; p++) {
                people[p].copyFrom(other.people[p]);
            }
            size = other.size;
            hour = other.hour;
            year = other.year;
            holds = other.holds;
            looks.copyFrom(other.looks);
            plan.copyFrom(other.plan);
            book.copyFrom(other.book);
        }
    }

    /** What the clauses of an office say; one without clauses stands for none. */
    private static final class Office {
        static final int NOT = -1, AND = -2, OR = -3;
        int taste = 8;
        int light = 18;
        int rate = 10;
        /** Of each like and mind: its n (below 0 by mind), and where its code ends. */
        final int[] weights = new int[CLAUSES];
        final int[] ends = new int[CLAUSES];
        int wishes = 0;
        /** Tests, each followed by what joins it: a stack of bits does without recursion. */
        final int[] code = new int[TEXT];
        int length = 0;

        void clear() {
            taste = 8;
            light = 18;
            rate = 10;
            wishes = 0;
            length = 0;
        }

        void addCode(int step) {
            if (length < TEXT) {
                code[length] = step;
                length++;
            }
        }

        void addWish(int weight) {
            if (wishes < CLAUSES) {
                weights[wishes] = weight;
                ends[wishes] = length;
                wishes++;
            }
        }

        int glow(int hour) {
            int far = Math.abs(hour - light);
            return Math.max(0, 9 - Math.min(far, HOURS - far));
        }

        int fine(Person one, int part, int hour) {
            if (part < 0 || part >= PARTS) {
                return 0;
            }
            int plain = one.graces[part] + liking(one, part, hour);
            int lit = plain + glow(hour) / 3;
            switch (one.kind) {
                case FADING: return lit - one.age / 20;
                case PROFILE: return lit + profile(part, hour);
                case FARMER: return lit + hands(part);
                case STATUE: return plain - one.age / 20;
                case YOUNG: return lit + profile(part, hour) + (one.age < 20 ? one.v : 0);
                case TOLD: return lit + hands(part) + one.row[part % ROW];
                default: return lit;
            }
        }

        private static int profile(int part, int hour) {
            return hour % 2 == 0 && part < 3 ? 3 : 0;
        }

        private static int hands(int part) {
            return part == 1 ? 5 : 0;
        }

        int liking(Person one, int part, int hour) {
            int sum = 0;
            int from = 0;
            for (int w = 0; w < wishes && w < CLAUSES; w++) {
                if (holds(from, ends[w], one, part, hour)) {
                    sum += weights[w];
                }
                from = ends[w];
            }
            return sum;
        }

        private boolean holds(int from, int to, Person one, int part, int hour) {
            int stack = 0;
            for (int at = Math.max(0, from); at < to && at < TEXT; at++) {
                int step = code[at];
                int below = stack >> 1;
                switch (step) {
                    case NOT: stack = stack ^ 1; break;
                    case AND: stack = below & (stack | ~1); break;
                    case OR: stack = below | (stack & 1); break;
                    default: stack = stack << 1 | (isSo(step, one, part, hour) ? 1 : 0); break;
                }
            }
            return (stack & 1) == 1;
        }

        private static boolean isSo(int test, Person one, int part, int hour) {
            int number = test % 100;
            int order = test / 100 % 3;
            int it;
            switch (test / 300) {
                case 0: it = one.number; break;
                case 1: it = part; break;
                case 2: it = one.kind; break;
                case 3: it = one.v; break;
                case 4: it = one.age / 10; break;
                default: it = hour; break;
            }
            return order == 0 ? it < number : order == 1 ? it == number : it > number;
        }

        int pays(Person one, int hour) {
            if (one.isGone) {
                return 0;
            }
            return (PARTS - Integer.bitCount(partsLetOff(one, hour))) * rate;
        }

        int partsLetOff(Person one, int hour) {
            int bits = 0;
            for (int part = 0; part < PARTS; part++) {
                if (fine(one, part, hour) >= taste) {
                    bits |= 1 << part;
                }
            }
            return bits;
        }

        int partToShow(Person one, int hour) {
            int finest = 0;
            int shown = NOBODY;
            for (int part = 0; part < PARTS; part++) {
                int fine = fine(one, part, hour);
                if (fine < taste && (shown == NOBODY || fine > finest)) {
                    finest = fine;
                    shown = part;
                }
            }
            return shown;
        }
    }

    /** Holds the text and reads it; where it stops is the fault, as no byte is passed that cannot stand there. */
    private static final class Reader {
        private static final int FAULT = -1, LIKE = 0, MIND = 1, TASTE = 2, LIGHT = 3, RATE = 4;
        final int[] text = new int[TEXT];
        int length = 0;
        int at = 0;
        /** The byte at the place; FAULT behind the end. */
        private int sign = FAULT;
        private Office made = new Office();

        /** Gives away the office just read, and has another one for the next. */
        Office handOver() {
            Office read = made;
            made = new Office();
            return read;
        }

        boolean readsOffice() {
            made.clear();
            goTo(0);
            for (int c = 0; c < CLAUSES; c++) {
                if ((c > 0 && !takes(';')) || !readsClause()) {
                    return false;
                }
                if (at >= length) {
                    return true;
                }
            }
            return false;
        }

        private void goTo(int place) {
            at = place;
            sign = at >= 0 && at < length && at < TEXT ? text[at] : FAULT;
        }

        private boolean takes(char due) {
            if (sign != due) {
                return false;
            }
            goTo(at + 1);
            return true;
        }

        private boolean takesAll(String word) {
            for (int i = 0; i < word.length(); i++) {
                if (!takes(word.charAt(i))) {
                    return false;
                }
            }
            return true;
        }

        private boolean readsClause() {
            int word = readWord();
            int n = word == FAULT ? FAULT : readNumber();
            if (n == FAULT) {
                return false;
            }
            switch (word) {
                case TASTE: made.taste = n; return true;
                case LIGHT: made.light = Math.min(n, HOURS - 1); return true;
                case RATE: made.rate = n; return true;
                default: break;
            }
            if (!takes(' ') || !readsEither(0)) {
                return false;
            }
            made.addWish(word == LIKE ? n : -n);
            return true;
        }

        /** A clause's word, and the blank behind it. */
        private int readWord() {
            if (takes('m')) {
                return takesAll("ind ") ? MIND : FAULT;
            }
            if (takes('t')) {
                return takesAll("aste ") ? TASTE : FAULT;
            }
            if (takes('r')) {
                return takesAll("ate ") ? RATE : FAULT;
            }
            if (!takesAll("li")) {
                return FAULT;
            }
            if (takes('k')) {
                return takesAll("e ") ? LIKE : FAULT;
            }
            return takesAll("ght ") ? LIGHT : FAULT;
        }

        /** A number of one or two digits. */
        private int readNumber() {
            if (sign < '0' || sign > '9') {
                return FAULT;
            }
            int n = sign - '0';
            goTo(at + 1);
            if (sign < '0' || sign > '9') {
                return n;
            }
            n = n * 10 + sign - '0';
            goTo(at + 1);
            return n;
        }

        private boolean readsEither(int depth) {
            if (!readsBoth(depth)) {
                return false;
            }
            for (int k = 0; k < TEXT && takes('|'); k++) {
                if (!readsBoth(depth)) {
                    return false;
                }
                made.addCode(Office.OR);
            }
            return true;
        }

        private boolean readsBoth(int depth) {
            if (!readsPart(depth)) {
                return false;
            }
            for (int k = 0; k < TEXT && takes('&'); k++) {
                if (!readsPart(depth)) {
                    return false;
                }
                made.addCode(Office.AND);
            }
            return true;
        }

        private boolean readsPart(int depth) {
            if (sign != '!' && sign != '(') {
                return readsTest();
            }
            if (depth >= NESTED) {
                return false;
            }
            if (takes('(')) {
                return readsEither(depth + 1) && takes(')');
            }
            goTo(at + 1);
            if (!readsPart(depth + 1)) {
                return false;
            }
            made.addCode(Office.NOT);
            return true;
        }

        private boolean readsTest() {
            int letter;
            switch (sign) {
                case 'p': letter = 0; break;
                case 't': letter = 1; break;
                case 'k': letter = 2; break;
                case 'v': letter = 3; break;
                case 'a': letter = 4; break;
                case 'h': letter = 5; break;
                default: return false;
            }
            goTo(at + 1);
            int order = sign - '<';
            if (order < 0 || order > 2) {
                return false;
            }
            goTo(at + 1);
            int n = readNumber();
            if (n == FAULT) {
                return false;
            }
            made.addCode((letter * 3 + order) * 100 + n);
            return true;
        }
    }

    /** Tries what might be; its rows are used again by each question. */
    private static final class Asker {
        private static final int EVERYBODY = (1 << PEOPLE) - 1;
        final Person guess = new Person();
        /** The least that is still to pay, by the bits of those who are seen to. */
        final int[] least = new int[EVERYBODY + 1];
        private final int[] who = new int[PEOPLE];
        private final int[] costs = new int[PEOPLE * PEOPLE];
        private final int[] fines = new int[PEOPLE * PARTS];
        private final int[] looked = new int[ExemptBeauty.LOOKS];

        Person older(Person one, int years) {
            guess.copyFrom(one);
            guess.growOlder(years);
            return guess;
        }

        int bestHour(Office office, Person one) {
            int best = 0;
            int lowest = office.pays(one, 0);
            for (int hour = 1; hour < HOURS; hour++) {
                int paid = office.pays(one, hour);
                if (paid < lowest) {
                    lowest = paid;
                    best = hour;
                }
            }
            return best;
        }

        int firstRise(Office office, Person one, int hour) {
            guess.copyFrom(one);
            int before = office.pays(guess, hour);
            for (int year = 1; year <= YEARS; year++) {
                guess.growOlder(1);
                int paid = office.pays(guess, hour);
                if (paid > before) {
                    return year;
                }
                before = paid;
            }
            return NOBODY;
        }

        /** Fills what is least from each set of those seen on; how many stand in line. */
        int lineUp(Town town, Office office) {
            int many = 0;
            for (int p = 0; p < town.size && p < PEOPLE; p++) {
                if (!town.people[p].isGone) {
                    who[many] = p;
                    many++;
                }
            }
            for (int place = 0; place < many; place++) {
                int hour = (town.hour + place) % HOURS;
                for (int w = 0; w < many; w++) {
                    costs[place * PEOPLE + w] = office.pays(town.people[who[w]], hour);
                }
            }
            int all = (1 << many) - 1;
            least[all] = 0;
            for (int seen = all - 1; seen >= 0; seen--) {
                least[seen] = paidFrom(seen, nextInLine(seen, many));
            }
            return many;
        }

        private int paidFrom(int seen, int w) {
            return costs[Integer.bitCount(seen) * PEOPLE + w] + least[seen | 1 << w];
        }

        /** The first by whom least is paid from here on, so that of several orders the first comes. */
        private int nextInLine(int seen, int many) {
            int next = -1;
            for (int w = 0; w < many; w++) {
                if ((seen >> w & 1) == 0 && (next < 0 || paidFrom(seen, w) < paidFrom(seen, next))) {
                    next = w;
                }
            }
            return Math.max(0, next);
        }

        int inLine(int k, int many) {
            int seen = 0;
            for (int place = 0; place < many; place++) {
                int next = nextInLine(seen, many);
                if (place == k) {
                    return who[next];
                }
                seen |= 1 << next;
            }
            return NOBODY;
        }

        void fillFines(Town town, Office office, int hour) {
            for (int p = 0; p < town.size && p < PEOPLE; p++) {
                for (int part = 0; part < PARTS; part++) {
                    fines[p * PARTS + part] = office.fine(town.people[p], part, hour);
                }
            }
        }

        /** One with itself is what it pays alone. */
        int paidByTwo(Office office, int one, int other) {
            int sum = 0;
            for (int part = 0; part < PARTS; part++) {
                int finer = Math.max(fines[one * PARTS + part], fines[other * PARTS + part]);
                if (finer < office.taste) {
                    sum += office.rate;
                }
            }
            return sum;
        }

        int partsBelow(Town town, int taste) {
            int sum = 0;
            for (int p = 0; p < town.size && p < PEOPLE; p++) {
                for (int part = 0; part < PARTS && !town.people[p].isGone; part++) {
                    sum += fines[p * PARTS + part] < taste ? 1 : 0;
                }
            }
            return sum;
        }

        /** Fills what is least from each set of those put on; the bits of those who are nowhere to put. */
        int pairUp(Town town, Office office) {
            fillFines(town, office, town.hour);
            int out = 0;
            for (int p = 0; p < PEOPLE; p++) {
                if (p >= town.size || town.people[p].isGone) {
                    out |= 1 << p;
                }
            }
            least[EVERYBODY] = 0;
            for (int put = EVERYBODY - 1; put >= 0; put--) {
                if ((put & out) == out) {
                    int one = firstFree(put);
                    least[put] = paidBehind(office, put, one, nextPartner(office, put, one));
                }
            }
            return out;
        }

        private static int firstFree(int put) {
            for (int p = 0; p < PEOPLE; p++) {
                if ((put >> p & 1) == 0) {
                    return p;
                }
            }
            return 0;
        }

        private int paidBehind(Office office, int put, int one, int other) {
            return paidByTwo(office, one, other) + least[put | 1 << one | 1 << other];
        }

        /** The least partner by whom least is paid from here on; the one itself is tried last: nobody. */
        private int nextPartner(Office office, int put, int one) {
            int best = -1;
            int lowest = 0;
            for (int step = 1; step <= PEOPLE - one; step++) {
                int other = step == PEOPLE - one ? one : one + step;
                if ((put >> other & 1) == 0) {
                    int paid = paidBehind(office, put, one, other);
                    if (best < 0 || paid < lowest) {
                        best = other;
                        lowest = paid;
                    }
                }
            }
            return best < 0 ? one : best;
        }

        int partner(Office office, int out, int person) {
            int put = out;
            for (int step = 0; step < PEOPLE && put != EVERYBODY; step++) {
                int one = firstFree(put);
                int other = nextPartner(office, put, one);
                if (one == person) {
                    return other == one ? NOBODY : other;
                }
                if (other == person) {
                    return one;
                }
                put |= 1 << one | 1 << other;
            }
            return NOBODY;
        }

        /** How fine each look's part is by then, from how the town stands. */
        void fillLooks(Town town, Office office) {
            Rows looks = town.looks;
            for (int r = 0; r < looks.size && r < looked.length; r++) {
                int person = looks.cell(r, 0);
                if (person >= 0 && person < PEOPLE) {
                    Person then = older(town.people[person], looks.cell(r, 3));
                    looked[r] = office.fine(then, looks.cell(r, 1), town.hour);
                }
            }
        }

        boolean areLooksSo(Rows looks, int taste) {
            for (int r = 0; r < looks.size && r < looked.length; r++) {
                if (looked[r] >= taste != (looks.cell(r, 2) == 1)) {
                    return false;
                }
            }
            return true;
        }

        boolean areLooksSoBy(Town town, Office office) {
            fillLooks(town, office);
            return areLooksSo(town.looks, office.taste);
        }

        /** Leads the guess, who begins as one, through the plan: the hour by then. People do not touch each other. */
        int goByPlan(Town town, Person one) {
            guess.copyFrom(one);
            int hour = town.hour;
            for (int r = 0; r < town.plan.size; r++) {
                int n = town.plan.cell(r, 1);
                switch (town.plan.cell(r, 0)) {
                    case YEAR_GOES: guess.growOlder(1); break;
                    case HOUR_SET: hour = n; break;
                    case ONE_LEAVES: guess.isGone = guess.isGone || n == one.number; break;
                    default: hour = (hour + 1) % HOURS; break;
                }
            }
            return hour;
        }
    }

    /** Runs the bodies of acts, and keeps which ran. */
    private static final class Actor {
        final int[] bodies = new int[TRACED];
        int ran = 0;

        void forget() {
            ran = 0;
        }

        int begin(Person one, int act, int x) {
            return perform(one, one.kind, act, x, 0);
        }

        /** The body of the kind, or of the next above that has one. */
        private int perform(Person one, int kind, int act, int x, int depth) {
            int k = kind;
            for (int step = 0; step < KINDS && k >= 0 && k < KINDS; step++) {
                int body = BODIES[k * ACTS + act];
                if (body != 0) {
                    return depth < DEEPEST ? run(one, body, x, depth + 1) : 0;
                }
                k = ABOVE[k];
            }
            return 0;
        }

        private int run(Person one, int body, int x, int depth) {
            if (ran < TRACED) {
                bodies[ran] = body;
            }
            ran++;
            switch (body) {
                case 10: return x + one.number;
                case 11: return perform(one, one.kind, SHOWS, x, depth) - one.v;
                case 12: return perform(one, one.kind, PAYS, x, depth) * 2;
                case 20: return perform(one, PERSON, PAYS, x, depth) ^ 6;
                case 30: return perform(one, PERSON, SHOWS, x * 3, depth);
                case 40: return perform(one, PERSON, TELLS, x, depth) + perform(one, one.kind, PAYS, 1, depth);
                case 50: return -perform(one, FADING, SHOWS, x, depth);
                case 51: return perform(one, FADING, PAYS, x + 1, depth);
                case 60: return perform(one, PROFILE, TELLS, x - one.number, depth);
                case 70: return perform(one, FARMER, PAYS, x, depth) + perform(one, FARMER, SHOWS, 2, depth);
                case 71: return perform(one, FARMER, SHOWS, x, depth) ^ one.v;
                default: return 0;
            }
        }
    }

    private static final class Tape {
        int sort = EMPTY;
        int length = 0;
        final long[] items = new long[LONGEST];

        void become(int itsSort, int n) {
            sort = itsSort;
            length = Math.max(0, Math.min(n, LONGEST));
            Arrays.fill(items, 0L);
        }

        long fitted(long v) {
            switch (sort) {
                case 0: return (byte) v;
                case 1: return (short) v;
                case 2: return (int) v;
                case 3: return v;
                default: return v != 0 ? 1 : 0;
            }
        }
    }
}
