/** Men two to a cell, whose doings are signs to one another. What it promises is told in ../shared/DOC.md. */
public final class AloneTogether {
    public static final int NONE = -1, BAD = -2, STATE = -3, FULL = -4;
    public static final long NO = -4611686018427387904L;

    private static final int NO_MAN = -5, NO_MATE = -6, UNFIT = -7;
    private static final int MISSING = -11, OUTSIDE = -12, OTHER_SORT = -13, BELOW_ZERO = -14;
    private static final int FAULTS = -100;

    private static final int MOST_MEN = 6, HOURS = 12, DOINGS = 6, COUGH = 4;
    private static final int KINDS = 6, MORES = 10, MOST_TERM = 9999, ALL_HOURS = 4095;
    private static final int MOST_TEXTS = 6, MOST_BYTES = 160, MOST_OPEN = 5;
    private static final int COUNTS = 0, PAYS = 1, SEES = 2, PARTS = 3;
    private static final int SHEETS = 4, MOST_NUMBERS = 40, SORTS = 3, BYTES = 0, SHORTS = 1;
    private static final int MOST_SEED = 99999, MOST_SEEDS = 40, MOST_OFTEN = 10, MOST_DAYS = 9999;
    private static final long LOT_TIMES = 48271, LOT_MODULO = 2147483647;

    private final Man[] men = new Man[MOST_MEN];
    // Copies in which something is otherwise, so that what is asked in thought never touches MEN.
    private final Man[] thought = new Man[MOST_MEN];
    private int menCount = 0;
    private final Rules rules;
    private final Rules thoughtRules;
    private final Text[] texts = new Text[MOST_TEXTS];
    private int textCount = 1;
    private int lawNumber = 0;
    private final Tape tape = new Tape();
    private final TextReader reader = new TextReader();
    private final Pairs pairs = new Pairs();
    private final int[] hourDays = new int[HOURS];
    private final Sheet[] sheets = new Sheet[SHEETS];
    private final Image kept = new Image();

    public AloneTogether() {
        for (int m = 0; m < MOST_MEN; m++) {
            men[m] = new Man();
            thought[m] = new Man();
        }
        for (int t = 0; t < MOST_TEXTS; t++) texts[t] = new Text();
        for (int s = 0; s < SHEETS; s++) sheets[s] = new Sheet();
        tape.spell("counts mine * his ; pays 9 ; sees 20 ;");
        reader.read(tape, texts[0]);
        tape.size = 0;
        rules = new Rules(texts[0]);
        thoughtRules = new Rules(texts[0]);
    }

    // ---- the law, men

    public int count(int what) {
        switch (what) {
            case 0: return menCount;
            case 1: return rules.watched;
            case 2: return textCount;
            case 3: return lawNumber;
            case 4: return tape.size;
            default: return BAD;
        }
    }

    public int watches(int set) {
        if (!within(set, 0, ALL_HOURS)) return BAD;
        int before = rules.watched;
        rules.watched = set;
        return before;
    }

    public int feed(int n, int a, int b, int c, int d, int e) {
        if (!within(n, 1, 5) || !isByte(a) || !isByte(b) || !isByte(c) || !isByte(d) || !isByte(e)) return BAD;
        if (tape.size + n > MOST_BYTES) return FULL;
        tape.add(a);
        if (n > 1) tape.add(b);
        if (n > 2) tape.add(c);
        if (n > 3) tape.add(d);
        if (n > 4) tape.add(e);
        return tape.size;
    }

    public int text() {
        if (textCount >= MOST_TEXTS) return FULL;
        int fault = reader.read(tape, texts[textCount]);
        tape.size = 0;
        return fault < 0 ? textCount++ : FAULTS - fault;
    }

    public int force(int t) {
        if (!within(t, 0, textCount - 1)) return BAD;
        int before = lawNumber;
        enforce(t);
        return before;
    }

    public int asks(int part, int m, int h) {
        if (!within(part, 0, PARTS - 1) || noMan(m) || noHour(h)) return BAD;
        return rules.says(part, men[m], mateOf(m), h);
    }

    public int man(int kindMore) {
        if (!within(kindMore, 0, KINDS * 10 - 1)) return BAD;
        if (menCount >= MOST_MEN) return FULL;
        men[menCount].come(kindMore / 10, kindMore % 10, menCount);
        return menCount++;
    }

    public int put(int m, int what, int v) {
        if (noMan(m)) return NO_MAN;
        if (!within(what, 0, HOURS) || !within(v, 0, what == HOURS ? MOST_TERM : DOINGS - 1)) return UNFIT;
        int before = told(m, what);
        if (what == HOURS) men[m].term = v;
        else men[m].doings[what] = v;
        return before;
    }

    public int told(int m, int what) {
        if (noMan(m)) return NO_MAN;
        if (!noHour(what)) return men[m].doings[what];
        switch (what) {
            case 12: return men[m].term;
            case 13: return men[m].kind;
            case 14: return men[m].more;
            case 15: return men[m].place;
            case 16: return mateNumber(m);
            default: return UNFIT;
        }
    }

    public int move(int a, int b) {
        if (noMan(a) || noMan(b)) return NO_MAN;
        int from = men[a].place;
        men[a].place = men[b].place;
        men[b].place = from;
        return men[a].place;
    }

    // ---- hours, days

    public int hour(int m, int h, int what) {
        if (noMan(m)) return NO_MAN;
        if (noHour(h)) return UNFIT;
        Man mate = mateOf(m);
        switch (what) {
            case 0: return mate == null ? 0 : mate.signIn(h);
            case 1: return rules.companyIn(men[m], mate, h);
            case 2: return rules.daysIn(men[m], mate, h);
            default: return UNFIT;
        }
    }

    public int day(int m, int what) {
        if (noMan(m)) return NO_MAN;
        Man mate = mateOf(m);
        switch (what) {
            case 0: return rules.daysOfDay(men[m], mate);
            case 1: return hoursOfCompany(men[m], mate);
            case 2: return firstCompany(men[m], mate);
            case 3: return mostCompany(men[m], mate);
            default: return UNFIT;
        }
    }

    public int all() {
        int sum = 0;
        for (int m = 0; m < menCount; m++) sum += rules.daysOfDay(men[m], mateOf(m));
        return sum;
    }

    public int live() {
        int sum = 0;
        // A TERM may be in the law, so the days of all are told before any TERM grows.
        for (int m = 0; m < menCount; m++) {
            int days = rules.daysOfDay(men[m], mateOf(m));
            sum += days;
            thoughtOf(m).term = Math.min(MOST_TERM, men[m].term + days);
        }
        for (int m = 0; m < menCount; m++) men[m].term = thought[m].term;
        return sum;
    }

    // ---- what would be best

    public int better(int m, int what) {
        if (noMan(m)) return NO_MAN;
        if (!within(what, 0, 1)) return UNFIT;
        Man mate = mateOf(m);
        int now = all(), least = now, best = NONE;
        for (int h = 0; h < HOURS; h++) {
            int others = now - rules.daysOfBothIn(men[m], mate, h);
            for (int d = 0; d < DOINGS; d++) {
                int then = others + rules.daysOfBothIn(doingOtherwise(m, h, d), mate, h);
                if (then < least) {
                    least = then;
                    best = 10 * h + d;
                }
            }
        }
        return what == 0 ? best : least;
    }

    public int swap(int what) {
        if (!within(what, 0, 1)) return BAD;
        pairs.weigh(men, menCount, rules);
        int least = all(), best = NONE;
        for (int a = 0; a < menCount; a++) {
            for (int b = a + 1; b < menCount; b++) {
                int then = allSwapped(a, b);
                if (then < least) {
                    least = then;
                    best = 10 * a + b;
                }
            }
        }
        return what == 0 ? best : least;
    }

    public int beds(int what) {
        if (!within(what, 0, 1)) return BAD;
        pairs.weigh(men, menCount, rules);
        pairs.lieBest();
        return what == 0 ? pairs.bestDigits : pairs.least;
    }

    public int guard(int n, int what) {
        if (!within(n, 0, 3) || !within(what, 0, 1)) return BAD;
        tellHourDays();
        int most = NONE, best = 0;
        for (int set = 0; set <= ALL_HOURS; set++) {
            if (Integer.bitCount(set) != n) continue;
            int then = daysWatching(set);
            if (then > most) {
                most = then;
                best = set;
            }
        }
        return what == 0 ? best : most;
    }

    public long codes(int m, int n) {
        if (noMan(m) || !within(n, 0, HOURS)) return NO;
        long ways = 1;
        for (int h = 0; h < n; h++) ways *= Integer.bitCount(quietDoings(m, h));
        return ways;
    }

    public int code(int m, int n) {
        if (noMan(m)) return NO_MAN;
        if (!within(n, 0, 9)) return UNFIT;
        int digits = 0;
        for (int h = 0; h < n; h++) {
            int least = leastOf(quietDoings(m, h));
            if (least == NONE) return NONE;
            digits = 10 * digits + least + 1;
        }
        return digits;
    }

    public int knows(int m, int h) {
        if (noMan(m)) return NO_MAN;
        if (noHour(h)) return UNFIT;
        int mateIs = mateNumber(m);
        if (noMan(mateIs)) return 0;
        int sign = men[mateIs].signIn(h);
        int company = rules.companyIn(men[m], men[mateIs], h);
        int bits = 0;
        for (int d = 0; d < DOINGS; d++) {
            Man other = doingOtherwise(mateIs, h, d);
            if (other.signIn(h) == sign && rules.companyIn(men[m], other, h) == company) bits |= 1 << d;
        }
        return bits;
    }

    public int still(int m) {
        if (noMan(m)) return NO_MAN;
        int changes = 0;
        for (int h = 0; h < HOURS; h++) {
            int quiet = quietDoings(m, h);
            if (quiet == 0) return NONE;
            if (!has(quiet, men[m].doings[h])) changes++;
        }
        return changes;
    }

    public long unseen(int m, int n, int part) {
        if (noMan(m) || !within(n, 0, 8) || !within(part, 0, 1)) return NO;
        Man mate = mateOf(m);
        long above = 1, below = 1;
        for (int h = 0; h < n; h++) {
            if (rules.companyIn(men[m], mate, h) == 0) continue;
            above *= 100 - rules.says(SEES, men[m], mate, h);
            below *= 100;
        }
        return inLowestTerms(above, below, part);
    }

    // ---- told days

    public int judge(int s, int m) {
        int refusal = refusesDay(s, m);
        return refusal != 0 ? refusal : firstOtherwise(rules, sheets[s], men[m], mateOf(m));
    }

    public int kinds(int s, int m, int sort) {
        int refusal = refusesDay(s, m);
        if (refusal != 0) return refusal;
        if (!within(sort, 0, 3)) return UNFIT;
        boolean ofMate = sort > 1, isMore = sort % 2 == 1;
        int whom = ofMate ? mateNumber(m) : m;
        if (noMan(whom)) return NO_MATE;
        Man other = thoughtOf(whom);
        int bits = 0;
        for (int v = 0; v < (isMore ? MORES : KINDS); v++) {
            if (isMore) other.more = v;
            else other.kind = v;
            if (agreesIf(s, m, other, ofMate)) bits |= 1 << v;
        }
        return bits;
    }

    public int did(int s, int m, int whoseHour) {
        int refusal = refusesDay(s, m);
        if (refusal != 0) return refusal;
        boolean ofMate = whoseHour >= 100;
        int h = ofMate ? whoseHour - 100 : whoseHour;
        if (noHour(h)) return UNFIT;
        int whom = ofMate ? mateNumber(m) : m;
        if (noMan(whom)) return NO_MATE;
        int bits = 0;
        for (int d = 0; d < DOINGS; d++) {
            if (agreesIf(s, m, doingOtherwise(whom, h, d), ofMate)) bits |= 1 << d;
        }
        return bits;
    }

    public int laws(int s, int m) {
        int refusal = refusesDay(s, m);
        if (refusal != 0) return refusal;
        Man mate = mateOf(m);
        thoughtRules.watched = rules.watched;
        int bits = 0;
        for (int t = 0; t < textCount; t++) {
            thoughtRules.law = texts[t];
            if (firstOtherwise(thoughtRules, sheets[s], men[m], mate) == NONE) bits |= 1 << t;
        }
        return bits;
    }

    public int whose(int s) {
        int refusal = refusesSheetOfDay(s);
        if (refusal != 0) return refusal;
        int bits = 0;
        for (int m = 0; m < menCount; m++) {
            if (firstOtherwise(rules, sheets[s], men[m], mateOf(m)) == NONE) bits |= 1 << m;
        }
        return bits;
    }

    public int film(int s, int m, int n) {
        if (noSheet(s)) return BAD;
        if (noMan(m)) return NO_MAN;
        if (!within(n, 0, HOURS)) return UNFIT;
        Man mate = mateOf(m);
        sheets[s].become(SHORTS, n);
        for (int h = 0; h < n; h++) sheets[s].set(h, rules.companyIn(men[m], mate, h));
        return n;
    }

    // ---- coughs by lots

    public int drawn(int seed, int often) {
        if (!within(seed, 0, MOST_SEED) || !within(often, 0, MOST_OFTEN)) return BAD;
        return allCoughing(seed, often);
    }

    public long odds(int seed, int seeds, int often, int days, int part) {
        if (!within(seed, 0, MOST_SEED) || !within(seeds, 1, MOST_SEEDS) || !within(often, 0, MOST_OFTEN)) return NO;
        if (!within(days, 0, MOST_DAYS) || !within(part, 0, 1)) return NO;
        int low = 0;
        for (int i = 0; i < seeds; i++) {
            if (allCoughing(seed + i, often) <= days) low++;
        }
        return inLowestTerms(low, seeds, part);
    }

    public int image() {
        kept.keep(men, menCount, rules.watched, lawNumber);
        return menCount;
    }

    public int back() {
        if (!kept.stands) return STATE;
        for (int m = 0; m < kept.menCount; m++) men[m].become(kept.men[m]);
        menCount = kept.menCount;
        rules.watched = kept.watched;
        enforce(kept.lawNumber);
        return menCount;
    }

    // ---- the host

    public int sheet(int s, int sort, int n) {
        if (noSheet(s) || !within(sort, NONE, SORTS - 1)) return BAD;
        if (sort == NONE) {
            sheets[s].become(NONE, 0);
            return 1;
        }
        if (n > MOST_NUMBERS) return BAD;
        if (n < 0) return BELOW_ZERO;
        sheets[s].become(sort, n);
        return 1;
    }

    public int cell(int s, int i, int v) {
        if (noSheet(s)) return BAD;
        if (sheets[s].isMissing()) return MISSING;
        if (!sheets[s].hasPlace(i)) return OUTSIDE;
        sheets[s].set(i, v);
        return 1;
    }

    public int copy(int s, int i, int other, int j, int n) {
        if (noSheet(s) || noSheet(other)) return BAD;
        if (sheets[s].isMissing() || sheets[other].isMissing()) return MISSING;
        if (sheets[s].sort != sheets[other].sort) return OTHER_SORT;
        if (!sheets[s].hasRoom(i, n) || !sheets[other].hasRoom(j, n)) return OUTSIDE;
        System.arraycopy(sheets[s].numbers, i, sheets[other].numbers, j, n);
        return n;
    }

    public int menBy(int s, int sort, int from, int n) {
        if (noSheet(s) || !within(sort, 0, SORTS - 1) || !within(n, 0, MOST_MEN)) return BAD;
        if (sheets[s].isMissing()) return MISSING;
        if (sheets[s].sort != sort) return OTHER_SORT;
        int came = 0;
        for (int i = 0; i < n; i++) {
            if (!sheets[s].hasPlace(from + i)) return OUTSIDE;
            if (man(sheets[s].numbers[from + i]) >= 0) came++;
        }
        return came;
    }

    public int taken(int i, int kind) {
        if (!within(kind, 0, KINDS)) return BAD;
        if (!within(i, 0, MOST_MEN + HOURS - 1)) return OUTSIDE;
        if (i >= MOST_MEN) {
            if (kind != KINDS) return OTHER_SORT;
            return rules.isWatched(i - MOST_MEN) ? 1 : 0;
        }
        if (noMan(i)) return MISSING;
        return kind < KINDS && Kind.isOne(men[i].kind, kind) ? i : OTHER_SORT;
    }

    // ---- what the calls above share

    private static boolean within(int v, int least, int most) {
        return v >= least && v <= most;
    }

    private static boolean isByte(int v) {
        return within(v, 0, 255);
    }

    private static boolean has(int bits, int i) {
        return (bits >> i & 1) == 1;
    }

    private static boolean noHour(int h) {
        return h < 0 || h >= HOURS;
    }

    private static boolean noSheet(int s) {
        return !within(s, 0, SHEETS - 1);
    }

    private boolean noMan(int m) {
        return !within(m, 0, menCount - 1);
    }

    private void enforce(int t) {
        lawNumber = t;
        rules.law = texts[t];
    }

    private int mateNumber(int m) {
        for (int i = 0; i < menCount; i++) {
            if (men[i].place == (men[m].place ^ 1)) return i;
        }
        return NONE;
    }

    /** The MATE, or null. */
    private Man mateOf(int m) {
        int mateIs = mateNumber(m);
        return mateIs < 0 ? null : men[mateIs];
    }

    private Man thoughtOf(int m) {
        thought[m].become(men[m]);
        return thought[m];
    }

    private Man doingOtherwise(int m, int h, int doing) {
        Man other = thoughtOf(m);
        other.doings[h] = doing;
        return other;
    }

    private int hoursOfCompany(Man man, Man mate) {
        int hours = 0;
        for (int h = 0; h < HOURS; h++) {
            if (rules.companyIn(man, mate, h) > 0) hours++;
        }
        return hours;
    }

    private int firstCompany(Man man, Man mate) {
        for (int h = 0; h < HOURS; h++) {
            if (rules.companyIn(man, mate, h) > 0) return h;
        }
        return NONE;
    }

    private int mostCompany(Man man, Man mate) {
        int most = 0;
        for (int h = 0; h < HOURS; h++) most = Math.max(most, rules.companyIn(man, mate, h));
        return most;
    }

    /** ALL, had a and b changed PLACES; the pairs must be weighed. */
    private int allSwapped(int a, int b) {
        int sum = 0;
        for (int i = 0; i < menCount; i++) {
            for (int j = i + 1; j < menCount; j++) {
                if (placeSwapped(i, a, b) == (placeSwapped(j, a, b) ^ 1)) sum += pairs.daysOf(i, j);
            }
        }
        return sum;
    }

    private int placeSwapped(int m, int a, int b) {
        if (m == a) return men[b].place;
        return m == b ? men[a].place : men[m].place;
    }

    /** What ALL would have of each HOUR, were it WATCHED: that does not depend on the other HOURS. */
    private void tellHourDays() {
        thoughtRules.law = rules.law;
        thoughtRules.watched = ALL_HOURS;
        for (int h = 0; h < HOURS; h++) {
            hourDays[h] = 0;
            for (int m = 0; m < menCount; m++) hourDays[h] += thoughtRules.daysIn(men[m], mateOf(m), h);
        }
    }

    private int daysWatching(int set) {
        int sum = 0;
        for (int h = 0; h < HOURS; h++) {
            if (has(set, h)) sum += hourDays[h];
        }
        return sum;
    }

    /** DOINGS (bits) of a MAN by which the HOUR would be QUIET. */
    private int quietDoings(int m, int h) {
        Man mate = mateOf(m);
        int bits = 0;
        for (int d = 0; d < DOINGS; d++) {
            if (rules.isQuiet(doingOtherwise(m, h, d), mate, h)) bits |= 1 << d;
        }
        return bits;
    }

    private static int leastOf(int doings) {
        for (int d = 0; d < DOINGS; d++) {
            if (has(doings, d)) return d;
        }
        return NONE;
    }

    private static long inLowestTerms(long above, long below, int part) {
        long divisor = commonDivisor(above, below);
        if (divisor == 0) return NO;
        return (part == 0 ? above : below) / divisor;
    }

    private static long commonDivisor(long a, long b) {
        // Two steps at least halve a number, so 200 are more than a long can need.
        for (int i = 0; i < 200 && b != 0; i++) {
            long rest = a % b;
            a = b;
            b = rest;
        }
        return a;
    }

    /** The refusal of a SHEET that should tell a day; 0: none. */
    private int refusesSheetOfDay(int s) {
        if (noSheet(s)) return BAD;
        if (sheets[s].isMissing()) return MISSING;
        return sheets[s].size > HOURS ? BAD : 0;
    }

    private int refusesDay(int s, int m) {
        int refusal = refusesSheetOfDay(s);
        if (refusal != 0) return refusal;
        return noMan(m) ? NO_MAN : 0;
    }

    private static int firstOtherwise(Rules by, Sheet day, Man man, Man mate) {
        for (int h = 0; h < day.size && h < HOURS; h++) {
            if (day.numbers[h] != by.companyIn(man, mate, h)) return h;
        }
        return NONE;
    }

    /** Whether a SHEET tells of a MAN rightly, the other one being in his MATE's stead, or in his own. */
    private boolean agreesIf(int s, int m, Man other, boolean ofMate) {
        Man man = ofMate ? men[m] : other;
        Man mate = ofMate ? other : mateOf(m);
        return firstOtherwise(rules, sheets[s], man, mate) == NONE;
    }

    private int allCoughing(int seed, int often) {
        for (int m = 0; m < menCount; m++) thoughtOf(m);
        long lot = seed + 1;
        int sum = 0;
        for (int h = 0; h < HOURS; h++) {
            for (int m = 0; m < menCount; m++) {
                lot = lot * LOT_TIMES % LOT_MODULO;
                if (lot % 10 < often) thought[m].doings[h] = COUGH;
            }
            // All have drawn for the HOUR now; a cough is a sign to the MATE, too.
            for (int m = 0; m < menCount; m++) {
                int mateIs = mateNumber(m);
                if (mateIs >= 0) sum += rules.daysIn(thought[m], thought[mateIs], h);
            }
        }
        return sum;
    }

    // ---- the classes inside

    /** What the KINDS are otherwise in. */
    private static final class Kind {
        private static final int RESTLESS = 1, STILL = 2, MUTE = 3, LIFER = 4, TRUSTY = 5;
        private static final int[] ABOVE = {0, 0, 0, 1, 2, 0};

        static int signs(int kind, int doing) {
            switch (kind) {
                case RESTLESS: return doing < 5 ? doing + 1 : 5;
                case MUTE: return doing > 2 ? 0 : doing + 1;
                case STILL:
                case LIFER: return doing < 3 ? 0 : doing;
                case TRUSTY: return doing == 5 ? 0 : doing;
                default: return doing;
            }
        }

        static int minds(int kind, int more, int company) {
            switch (kind) {
                case STILL: return company / 2;
                case MUTE: return company + more;
                case LIFER: return company <= more ? 0 : company / 2;
                default: return company;
            }
        }

        static int serves(int kind, int more, int days) {
            switch (kind) {
                case LIFER: return days / 3;
                case TRUSTY: return Math.max(0, days - more);
                default: return days;
            }
        }

        /** Whether one of a KIND is one of another KIND, too. */
        static boolean isOne(int kind, int other) {
            int at = kind;
            // No KIND lies more than two below MAN.
            for (int i = 0; i < 3; i++) {
                if (at == other) return true;
                if (!within(at, 0, KINDS - 1)) return false;
                at = ABOVE[at];
            }
            return false;
        }
    }

    private static final class Man {
        int kind;
        int more;
        int term;
        int place;
        final int[] doings = new int[HOURS];

        void come(int ofKind, int withMore, int atPlace) {
            kind = ofKind;
            more = withMore;
            place = atPlace;
            term = 0;
            for (int h = 0; h < HOURS; h++) doings[h] = 0;
        }

        void become(Man other) {
            kind = other.kind;
            more = other.more;
            term = other.term;
            place = other.place;
            System.arraycopy(other.doings, 0, doings, 0, HOURS);
        }

        int signIn(int h) {
            return noHour(h) ? 0 : Kind.signs(kind, doings[h]);
        }
    }

    /** What holds in a house: its law, and which HOURS are WATCHED. */
    private static final class Rules {
        private static final int MINE = 0, HIS = 1, HOUR = 2, TERM = 3, MORE = 4, WATCHED = 5, NAMES = 6;
        // 6 levels of ( with 5 halves of or, and, < or =, + or -, * each, and one more: 31.
        private static final int MOST_WAITING = 32;

        Text law;
        int watched = 0;
        private final int[] names = new int[NAMES];
        private final int[] stack = new int[MOST_WAITING];

        Rules(Text first) {
            law = first;
        }

        boolean isWatched(int h) {
            return has(watched, h);
        }

        int says(int part, Man man, Man mate, int h) {
            if (noHour(h)) return 0;
            names[MINE] = man.doings[h];
            names[HIS] = mate == null ? 0 : mate.signIn(h);
            names[HOUR] = h;
            names[TERM] = man.term;
            names[MORE] = man.more;
            names[WATCHED] = isWatched(h) ? 1 : 0;
            int bound = part == SEES ? 100 : 99;
            return Math.max(0, Math.min(bound, law.valueOf(part, names, stack)));
        }

        int companyIn(Man man, Man mate, int h) {
            if (man == null || mate == null) return 0;
            return Kind.minds(man.kind, man.more, says(COUNTS, man, mate, h));
        }

        int daysIn(Man man, Man mate, int h) {
            if (!isWatched(h) || companyIn(man, mate, h) == 0) return 0;
            return Kind.serves(man.kind, man.more, says(PAYS, man, mate, h));
        }

        int daysOfBothIn(Man man, Man mate, int h) {
            return daysIn(man, mate, h) + daysIn(mate, man, h);
        }

        int daysOfDay(Man man, Man mate) {
            int sum = 0;
            for (int h = 0; h < HOURS; h++) sum += daysIn(man, mate, h);
            return sum;
        }

        boolean isQuiet(Man man, Man mate, int h) {
            return companyIn(man, mate, h) == 0 && companyIn(mate, man, h) == 0;
        }
    }

    /** What each two MEN would have of a day, were they MATES: ways to lie are sums of these. */
    private static final class Pairs {
        // ALL is 99 for each of 6 MEN in each of 12 HOURS at most.
        private static final int ABOVE_ALL = 10000;

        private final int[] days = new int[MOST_MEN * MOST_MEN];
        private int many;
        int least;
        int bestDigits;

        void weigh(Man[] men, int menCount, Rules rules) {
            many = Math.min(menCount, MOST_MEN);
            for (int a = 0; a < many; a++) {
                for (int b = a + 1; b < many; b++) {
                    int both = rules.daysOfDay(men[a], men[b]) + rules.daysOfDay(men[b], men[a]);
                    days[a * MOST_MEN + b] = both;
                    days[b * MOST_MEN + a] = both;
                }
            }
        }

        int daysOf(int a, int b) {
            if (!within(a, 0, many - 1) || !within(b, 0, many - 1)) return 0;
            return days[a * MOST_MEN + b];
        }

        void lieBest() {
            least = ABOVE_ALL;
            bestDigits = 0;
            lie(this, 0, 0, NONE, 0, 0);
        }

        /** Puts each MAN who lies nowhere yet at a PLACE, 6 deep at most; last is who lies at the one before. */
        private static void lie(Pairs by, int place, int lying, int last, int sum, int digits) {
            // Sums never shrink, and of like ways the first one stays.
            if (sum >= by.least) return;
            if (place >= by.many) {
                by.least = sum;
                by.bestDigits = digits;
                return;
            }
            for (int m = 0; m < by.many; m++) {
                if (has(lying, m)) continue;
                int more = place % 2 == 1 ? by.daysOf(last, m) : 0;
                lie(by, place + 1, lying | 1 << m, m, sum + more, 10 * digits + m + 1);
            }
        }
    }

    private static final class Tape {
        final char[] bytes = new char[MOST_BYTES];
        int size = 0;

        void add(int v) {
            if (size < MOST_BYTES) bytes[size++] = (char) v;
        }

        void spell(String letters) {
            for (int i = 0; i < letters.length(); i++) add(letters.charAt(i));
        }

        boolean isDigit(int i) {
            return i < size && within(bytes[i], '0', '9');
        }

        boolean isLetter(int i) {
            return i < size && within(bytes[i], 'a', 'z');
        }

        boolean isBlank(int i) {
            return i < size && (bytes[i] == ' ' || bytes[i] == '\n');
        }

        boolean isSign(int i) {
            if (i >= size) return false;
            switch (bytes[i]) {
                case '(': case ')': case ';': case '+': case '-': case '*': case '<': case '=': return true;
                default: return false;
            }
        }

        boolean spells(int from, int to, String word) {
            if (to - from != word.length()) return false;
            for (int i = from; i < to && i < size; i++) {
                if (bytes[i] != word.charAt(i - from)) return false;
            }
            return true;
        }
    }

    /** A TEXT as steps on a stack, so that a long sum needs no depth. A sign's step is the sign itself. */
    private static final class Text {
        // Steps are numbered as the reader's TOKENS are: OR, AND, NOT by their places among its KEYS.
        static final int NUMBER = 2, NAME = 3, OR = 7, AND = 8, NOT = 9, NEGATE = 10;
        private static final int STEP_BITS = 6, STEP_MASK = 63;

        private final int[] steps = new int[MOST_BYTES];
        private final int[] ends = new int[PARTS];
        private int size = 0;

        void clear() {
            size = 0;
        }

        void add(int step, int value) {
            if (size < MOST_BYTES) steps[size++] = value << STEP_BITS | step;
        }

        void endPart(int part) {
            ends[part] = size;
        }

        int valueOf(int part, int[] names, int[] stack) {
            int top = 0;
            for (int i = part == 0 ? 0 : ends[part - 1]; i < ends[part]; i++) {
                int step = steps[i] & STEP_MASK, value = steps[i] >> STEP_BITS;
                if (step == NUMBER || step == NAME) {
                    if (top < stack.length) stack[top++] = step == NAME ? named(value, names) : value;
                } else if (step == NOT || step == NEGATE) {
                    if (top > 0) stack[top - 1] = turned(step, stack[top - 1]);
                } else if (top > 1) {
                    top--;
                    stack[top - 1] = joined(step, stack[top - 1], stack[top]);
                }
            }
            return top > 0 ? stack[top - 1] : 0;
        }

        private static int named(int name, int[] names) {
            return name >= 0 && name < names.length ? names[name] : 0;
        }

        private static int turned(int step, int a) {
            if (step == NEGATE) return -a;
            return a == 0 ? 1 : 0;
        }

        private static int joined(int step, int a, int b) {
            switch (step) {
                case OR: return a != 0 || b != 0 ? 1 : 0;
                case AND: return a != 0 && b != 0 ? 1 : 0;
                case '<': return a < b ? 1 : 0;
                case '=': return a == b ? 1 : 0;
                case '+': return a + b;
                case '-': return a - b;
                default: return a * b;
            }
        }
    }

    /** Reads a TEXT, TOKEN by TOKEN, a method for each rule of its grammar; open keeps them from going deep. */
    private static final class TextReader {
        // The KEYS come in the order of word(), the first of them being FIRST_KEY. STRAY fits nowhere.
        private static final int END = 0, STRAY = 1, FIRST_KEY = 4, KEYS = 6, WORDS = 12, MOST_DIGITS = 4;

        private Tape tape = null;
        private Text into = null;
        private int token;
        private int value;
        private int from;
        private int to;
        private int fault;

        /** The place of the FAULT, or -1. */
        int read(Tape theTape, Text theText) {
            tape = theTape;
            into = theText;
            into.clear();
            to = 0;
            fault = NONE;
            advance();
            for (int part = 0; part < PARTS; part++) {
                expect(FIRST_KEY + part);
                either(0);
                expect(';');
                into.endPart(part);
            }
            if (token != END) refuse();
            return fault;
        }

        private void either(int open) {
            both(open);
            for (int i = 0; i < MOST_BYTES && token == Text.OR; i++) {
                advance();
                both(open);
                into.add(Text.OR, 0);
            }
        }

        private void both(int open) {
            negated(open);
            for (int i = 0; i < MOST_BYTES && token == Text.AND; i++) {
                advance();
                negated(open);
                into.add(Text.AND, 0);
            }
        }

        private void negated(int open) {
            if (token == Text.NOT) afterNot(open);
            else compared(open);
        }

        private void afterNot(int open) {
            if (!mayOpen(open)) return;
            advance();
            negated(open + 1);
            into.add(Text.NOT, 0);
        }

        private void compared(int open) {
            sum(open);
            if (token != '<' && token != '=') return;
            int sign = token;
            advance();
            sum(open);
            into.add(sign, 0);
        }

        private void sum(int open) {
            product(open);
            for (int i = 0; i < MOST_BYTES && (token == '+' || token == '-'); i++) {
                int sign = token;
                advance();
                product(open);
                into.add(sign, 0);
            }
        }

        private void product(int open) {
            one(open);
            for (int i = 0; i < MOST_BYTES && token == '*'; i++) {
                advance();
                one(open);
                into.add('*', 0);
            }
        }

        private void one(int open) {
            if (token == Text.NUMBER || token == Text.NAME) {
                into.add(token, value);
                advance();
            } else if (token == '-') {
                afterMinus(open);
            } else if (token == '(') {
                inBrackets(open);
            } else {
                refuse();
            }
        }

        private void afterMinus(int open) {
            if (!mayOpen(open)) return;
            advance();
            one(open + 1);
            into.add(Text.NEGATE, 0);
        }

        private void inBrackets(int open) {
            if (!mayOpen(open)) return;
            advance();
            either(open + 1);
            expect(')');
        }

        private boolean mayOpen(int open) {
            if (open >= MOST_OPEN) refuse();
            return open < MOST_OPEN;
        }

        private void expect(int wanted) {
            if (token == wanted) advance();
            else refuse();
        }

        /** The first FAULT stays; behind it no TOKEN fits, so that all rules end. */
        private void refuse() {
            if (fault < 0) fault = from;
            token = STRAY;
        }

        private void advance() {
            from = to;
            while (from < MOST_BYTES && tape.isBlank(from)) from++;
            to = from;
            value = 0;
            if (from >= tape.size) {
                token = END;
            } else if (tape.isLetter(from)) {
                takeWord();
            } else if (tape.isDigit(from)) {
                takeNumber();
            } else {
                to = from + 1;
                token = tape.isSign(from) ? tape.bytes[from] : STRAY;
            }
        }

        private void takeNumber() {
            while (to < MOST_BYTES && tape.isDigit(to)) {
                if (to - from < MOST_DIGITS) value = 10 * value + tape.bytes[to] - '0';
                to++;
            }
            token = to - from > MOST_DIGITS ? STRAY : Text.NUMBER;
        }

        private void takeWord() {
            while (to < MOST_BYTES && tape.isLetter(to)) to++;
            token = STRAY;
            for (int w = 0; w < WORDS; w++) {
                if (!tape.spells(from, to, word(w))) continue;
                token = w < KEYS ? FIRST_KEY + w : Text.NAME;
                value = w < KEYS ? 0 : w - KEYS;
            }
        }

        /** The KEYS, then the NAMES in the order of Rules. */
        private static String word(int w) {
            switch (w) {
                case 0: return "counts";
                case 1: return "pays";
                case 2: return "sees";
                case 3: return "or";
                case 4: return "and";
                case 5: return "not";
                case 6: return "mine";
                case 7: return "his";
                case 8: return "hour";
                case 9: return "term";
                case 10: return "more";
                default: return "watched";
            }
        }
    }

    private static final class Sheet {
        final int[] numbers = new int[MOST_NUMBERS];
        int sort = NONE;
        int size = 0;

        boolean isMissing() {
            return sort == NONE;
        }

        boolean hasPlace(int i) {
            return within(i, 0, size - 1);
        }

        /** Whether n numbers from i on all lie in it. */
        boolean hasRoom(int i, int n) {
            return i >= 0 && n >= 0 && i <= size - n;
        }

        void become(int ofSort, int ofSize) {
            sort = ofSort;
            size = within(ofSize, 0, MOST_NUMBERS) ? ofSize : 0;
            for (int i = 0; i < MOST_NUMBERS; i++) numbers[i] = 0;
        }

        void set(int i, int v) {
            if (!hasPlace(i)) return;
            if (sort == BYTES) numbers[i] = (byte) v;
            else numbers[i] = sort == SHORTS ? (short) v : v;
        }
    }

    private static final class Image {
        final Man[] men = new Man[MOST_MEN];
        boolean stands = false;
        int menCount;
        int watched;
        int lawNumber;

        Image() {
            for (int m = 0; m < MOST_MEN; m++) men[m] = new Man();
        }

        void keep(Man[] theMen, int theMenCount, int theWatched, int theLawNumber) {
            menCount = Math.min(theMenCount, MOST_MEN);
            for (int m = 0; m < menCount; m++) men[m].become(theMen[m]);
            watched = theWatched;
            lawNumber = theLawNumber;
            stands = true;
        }
    }
}
