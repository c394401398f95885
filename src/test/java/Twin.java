import java.util.ArrayList;
import java.util.List;
import java.util.function.Function;

/**
 * The whole document told a second time, each call in its plainest form: what is asked in thought is asked of a copy of the
 * House in which it truly is so. RunTest makes each call of a run of both.
 */
final class Twin {
    private static final int HOURS = 12;

    House house = new House();
    private House image = null;
    private final StringBuilder tape = new StringBuilder();
    private final int[] sorts = {-1, -1, -1, -1};
    private final List<List<Integer>> rows = new ArrayList<>(List.of(List.of(), List.of(), List.of(), List.of()));

    long answer(String call, int[] n) {
        int a = n.length > 0 ? n[0] : 0, b = n.length > 1 ? n[1] : 0, c = n.length > 2 ? n[2] : 0;
        switch (call) {
            case "count": return in(a, 0, 4) ? List.of(house.men, house.watched, house.laws.size(), house.law, tape.length()).get(a) : -2;
            case "watches": return watches(a);
            case "feed": return feed(n);
            case "text": return text();
            case "force": return force(a);
            case "asks": return in(a, 0, 2) && isMan(b) && in(c, 0, 11) ? house.says(a, b, c) : -2;
            case "man": return man(a);
            case "put": return put(a, b, c);
            case "told": return told(a, b);
            case "move": return move(a, b);
            case "hour": return !isMan(a) ? -5 : !in(b, 0, 11) || !in(c, 0, 2) ? -7 : hour(a, b, c);
            case "day": return !isMan(a) ? -5 : !in(b, 0, 3) ? -7 : day(a, b);
            case "all": return house.all();
            case "live": return live();
            case "better": return !isMan(a) ? -5 : !in(b, 0, 1) ? -7 : best(house.all(), least(house.all(), betterWays(a)), b);
            case "swap": return !in(a, 0, 1) ? -2 : best(house.all(), least(house.all(), swapWays()), a);
            case "beds": return !in(a, 0, 1) ? -2 : beds(a);
            case "guard": return !in(a, 0, 3) || !in(b, 0, 1) ? -2 : guard(a, b);
            case "codes": return !isMan(a) || !in(b, 0, 12) ? AloneTogether.NO : codes(a, b);
            case "code": return !isMan(a) ? -5 : !in(b, 0, 9) ? -7 : code(a, b);
            case "knows": return !isMan(a) ? -5 : !in(b, 0, 11) ? -7 : knows(a, b);
            case "still": return !isMan(a) ? -5 : still(a);
            case "unseen": return !isMan(a) || !in(b, 0, 8) || !in(c, 0, 1) ? AloneTogether.NO : unseen(a, b, c);
            case "drawn": return !in(a, 0, 99999) || !in(b, 0, 10) ? -2 : allCoughing(a, b);
            case "odds": return odds(n);
            case "image": image = house.copy(); return house.men;
            case "back": return image == null ? -3 : back();
            default: return answerOfRows(call, n);
        }
    }

    private long answerOfRows(String call, int[] n) {
        int a = n[0], b = n.length > 1 ? n[1] : 0, c = n.length > 2 ? n[2] : 0;
        int refusal = refusesDay(a);
        int ofMan = refusal != 0 ? refusal : isMan(b) ? 0 : -5;
        switch (call) {
            case "judge": return ofMan != 0 ? ofMan : judged(house, a, b);
            case "kinds": return ofMan != 0 ? ofMan : kinds(a, b, c);
            case "did": return ofMan != 0 ? ofMan : did(a, b, c);
            case "laws": return ofMan != 0 ? ofMan : bits(house.laws.size(), t -> judged(with(h -> h.law = t), a, b) == -1);
            case "whose": return refusal != 0 ? refusal : bits(house.men, m -> judged(house, a, m) == -1);
            case "film": return film(a, b, c);
            case "sheet": return sheet(a, b, c);
            case "cell": return cell(a, b, c);
            case "copy": return copy(n);
            case "menBy": return menBy(n);
            case "taken": return taken(a, b);
            default: throw new IllegalArgumentException(call);
        }
    }

    private static boolean in(int v, int least, int most) {
        return v >= least && v <= most;
    }

    private boolean isMan(int m) {
        return in(m, 0, house.men - 1);
    }

    private interface Change {
        void of(House house);
    }

    private House with(Change change) {
        House other = house.copy();
        change.of(other);
        return other;
    }

    private static int bits(int many, Function<Integer, Boolean> is) {
        int bits = 0;
        for (int i = 0; i < many; i++) bits += is.apply(i) ? 1 << i : 0;
        return bits;
    }

    // ---- the law, men

    private int watches(int set) {
        int before = house.watched;
        if (!in(set, 0, 4095)) return -2;
        house.watched = set;
        return before;
    }

    private int feed(int[] n) {
        boolean fits = in(n[0], 1, 5);
        for (int i = 1; i <= 5; i++) fits &= in(n[i], 0, 255);
        if (!fits) return -2;
        if (n[0] > 160 - tape.length()) return -4;
        for (int i = 1; i <= n[0]; i++) tape.append((char) n[i]);
        return tape.length();
    }

    private int text() {
        if (house.laws.size() == 6) return -4;
        Reading reading = new Reading(tape.toString());
        tape.setLength(0);
        if (reading.fault >= 0) return -100 - reading.fault;
        house.laws.add(reading.law());
        return house.laws.size() - 1;
    }

    private int force(int t) {
        int before = house.law;
        if (!in(t, 0, house.laws.size() - 1)) return -2;
        house.law = t;
        return before;
    }

    private int man(int kindMore) {
        if (!in(kindMore, 0, 59)) return -2;
        if (house.men == 6) return -4;
        int m = house.men++;
        house.kind[m] = kindMore / 10;
        house.more[m] = kindMore % 10;
        house.term[m] = 0;
        house.place[m] = m;
        house.doing[m] = new int[HOURS];
        return m;
    }

    private int put(int m, int what, int v) {
        if (!isMan(m)) return -5;
        if (!in(what, 0, 12) || !in(v, 0, what == 12 ? 9999 : 5)) return -7;
        int before = told(m, what);
        if (what == 12) house.term[m] = v;
        else house.doing[m][what] = v;
        return before;
    }

    private int told(int m, int what) {
        if (!isMan(m)) return -5;
        if (in(what, 0, 11)) return house.doing[m][what];
        if (!in(what, 12, 16)) return -7;
        return List.of(house.term[m], house.kind[m], house.more[m], house.place[m], house.mate(m)).get(what - 12);
    }

    private int move(int a, int b) {
        if (!isMan(a) || !isMan(b)) return -5;
        int to = house.place[b];
        house.place[b] = house.place[a];
        house.place[a] = to;
        return to;
    }

    // ---- hours, days

    private int hour(int m, int h, int what) {
        return what == 0 ? house.sign(m, h) : what == 1 ? house.company(m, h) : house.days(m, h);
    }

    private int day(int m, int what) {
        int hours = bits(HOURS, h -> house.company(m, h) > 0), most = 0;
        for (int h = 0; h < HOURS; h++) most = Math.max(most, house.company(m, h));
        int first = hours == 0 ? -1 : Integer.numberOfTrailingZeros(hours);
        return List.of(house.day(m), Integer.bitCount(hours), first, most).get(what);
    }

    private int live() {
        House ahead = house.copy();
        for (int m = 0; m < house.men; m++) house.term[m] = Math.min(9999, ahead.term[m] + ahead.day(m));
        return ahead.all();
    }

    // ---- what would be best

    private record Way(int name, House then) {
    }

    private List<Way> betterWays(int m) {
        List<Way> ways = new ArrayList<>();
        for (int i = 0; i < 6 * HOURS; i++) {
            int h = i / 6, d = i % 6;
            ways.add(new Way(10 * h + d, with(then -> then.doing[m][h] = d)));
        }
        return ways;
    }

    private List<Way> swapWays() {
        List<Way> ways = new ArrayList<>();
        for (int i = 0; i < house.men * house.men; i++) {
            int a = i / house.men, b = i % house.men;
            if (a < b) ways.add(new Way(10 * a + b, with(then -> {
                then.place[a] = house.place[b];
                then.place[b] = house.place[a];
            })));
        }
        return ways;
    }

    /** The first of those by whom ALL is least, if it is less than a bound. */
    private static Way least(int bound, List<Way> ways) {
        Way least = null;
        for (Way way : ways) {
            if (way.then.all() < (least == null ? bound : least.then.all())) least = way;
        }
        return least;
    }

    private static int best(int now, Way way, int what) {
        if (what == 0) return way == null ? -1 : way.name;
        return way == null ? now : way.then.all();
    }

    private int beds(int what) {
        List<Way> ways = new ArrayList<>();
        lie(ways, house.copy(), 0, 0, 0);
        return best(0, least(Integer.MAX_VALUE, ways), what);
    }

    private void lie(List<Way> ways, House then, int place, int lying, int digits) {
        if (place == house.men) ways.add(new Way(digits, then.copy()));
        for (int m = 0; m < house.men && place < house.men; m++) {
            if ((lying & 1 << m) != 0) continue;
            then.place[m] = place;
            lie(ways, then, place + 1, lying | 1 << m, 10 * digits + m + 1);
        }
    }

    private int guard(int n, int what) {
        int most = -1, best = -1;
        for (int set = 0; set < 4096; set++) {
            if (Integer.bitCount(set) != n) continue;
            int watched = set, then = with(h -> h.watched = watched).all();
            if (then > most) best = set;
            most = Math.max(most, then);
        }
        return what == 0 ? best : most;
    }

    private int quiet(int m, int h) {
        return bits(6, d -> with(then -> then.doing[m][h] = d).quiet(m, h));
    }

    private long codes(int m, int n) {
        long ways = 1;
        for (int h = 0; h < n; h++) ways *= Integer.bitCount(quiet(m, h));
        return ways;
    }

    private int code(int m, int n) {
        StringBuilder digits = new StringBuilder("0");
        for (int h = 0; h < n; h++) digits.append(1 + Integer.numberOfTrailingZeros(quiet(m, h)));
        return codes(m, n) == 0 ? -1 : Integer.parseInt(digits.toString());
    }

    private int knows(int m, int h) {
        int mate = house.mate(m);
        if (mate < 0) return 0;
        return bits(6, d -> {
            House then = with(other -> other.doing[mate][h] = d);
            return then.sign(m, h) == house.sign(m, h) && then.company(m, h) == house.company(m, h);
        });
    }

    private int still(int m) {
        int hours = 0;
        for (int h = 0; h < HOURS; h++) {
            if (quiet(m, h) == 0) return -1;
            if (!house.quiet(m, h)) hours++;
        }
        return hours;
    }

    private long unseen(int m, int n, int part) {
        long above = 1, below = 1;
        for (int h = 0; h < n; h++) {
            if (house.company(m, h) == 0) continue;
            above *= 100 - house.says(2, m, h);
            below *= 100;
        }
        return lowest(above, below, part);
    }

    private static long lowest(long above, long below, int part) {
        long divisor = java.math.BigInteger.valueOf(above).gcd(java.math.BigInteger.valueOf(below)).longValueExact();
        return (part == 0 ? above : below) / divisor;
    }

    // ---- told days

    private int refusesDay(int s) {
        if (!in(s, 0, 3)) return -2;
        return sorts[s] == -1 ? -11 : rows.get(s).size() > 12 ? -2 : 0;
    }

    private int judged(House then, int s, int m) {
        return then.judged(rows.get(s).stream().mapToInt(i -> i).toArray(), m);
    }

    private int kinds(int s, int m, int sort) {
        if (!in(sort, 0, 3)) return -7;
        int whose = sort < 2 ? m : house.mate(m);
        if (whose < 0) return -6;
        if (sort == 0 || sort == 2) return bits(6, v -> judged(with(then -> then.kind[whose] = v), s, m) == -1);
        return bits(10, v -> judged(with(then -> then.more[whose] = v), s, m) == -1);
    }

    private int did(int s, int m, int whoseHour) {
        if (!in(whoseHour, 0, 11) && !in(whoseHour, 100, 111)) return -7;
        int whose = whoseHour < 100 ? m : house.mate(m);
        if (whose < 0) return -6;
        return bits(6, d -> judged(with(then -> then.doing[whose][whoseHour % 100] = d), s, m) == -1);
    }

    private int film(int s, int m, int n) {
        if (!in(s, 0, 3)) return -2;
        if (!isMan(m)) return -5;
        if (!in(n, 0, 12)) return -7;
        List<Integer> row = new ArrayList<>();
        for (int h = 0; h < n; h++) row.add(house.company(m, h));
        sorts[s] = 1;
        rows.set(s, row);
        return n;
    }

    // ---- coughs by lots

    private int allCoughing(int seed, int often) {
        House then = house.copy();
        then.coughs(seed, often);
        return then.all();
    }

    private long odds(int[] n) {
        boolean fits = in(n[0], 0, 99999) && in(n[1], 1, 40) && in(n[2], 0, 10) && in(n[3], 0, 9999) && in(n[4], 0, 1);
        if (!fits) return AloneTogether.NO;
        int low = 0;
        for (int i = 0; i < n[1]; i++) low += allCoughing(n[0] + i, n[2]) <= n[3] ? 1 : 0;
        return lowest(low, n[1], n[4]);
    }

    private int back() {
        House now = image.copy();
        now.laws.clear();
        now.laws.addAll(house.laws);
        house = now;
        return house.men;
    }

    // ---- the host

    private int sheet(int s, int sort, int n) {
        if (!in(s, 0, 3) || !in(sort, -1, 2) || sort >= 0 && n > 40) return -2;
        if (sort >= 0 && n < 0) return -14;
        sorts[s] = sort;
        List<Integer> row = new ArrayList<>();
        for (int i = 0; i < n && sort >= 0; i++) row.add(0);
        rows.set(s, row);
        return 1;
    }

    private int cell(int s, int i, int v) {
        if (!in(s, 0, 3)) return -2;
        if (sorts[s] < 0) return -11;
        if (!in(i, 0, rows.get(s).size() - 1)) return -12;
        rows.get(s).set(i, sorts[s] == 0 ? (int) (byte) v : sorts[s] == 1 ? (int) (short) v : v);
        return 1;
    }

    private int copy(int[] n) {
        if (!in(n[0], 0, 3) || !in(n[2], 0, 3)) return -2;
        if (sorts[n[0]] < 0 || sorts[n[2]] < 0) return -11;
        if (sorts[n[0]] != sorts[n[2]]) return -13;
        List<Integer> from = rows.get(n[0]), to = rows.get(n[2]);
        boolean fits = n[1] >= 0 && n[3] >= 0 && n[4] >= 0 && (long) n[1] + n[4] <= from.size() && (long) n[3] + n[4] <= to.size();
        if (!fits) return -12;
        List<Integer> asTheyWere = new ArrayList<>(from.subList(n[1], n[1] + n[4]));
        for (int k = 0; k < n[4]; k++) to.set(n[3] + k, asTheyWere.get(k));
        return n[4];
    }

    private int menBy(int[] n) {
        if (!in(n[0], 0, 3) || !in(n[1], 0, 2) || !in(n[3], 0, 6)) return -2;
        if (sorts[n[0]] < 0) return -11;
        if (sorts[n[0]] != n[1]) return -13;
        int came = 0;
        for (long i = n[2]; i < (long) n[2] + n[3]; i++) {
            if (i < 0 || i >= rows.get(n[0]).size()) return -12;
            came += man(rows.get(n[0]).get((int) i)) >= 0 ? 1 : 0;
        }
        return came;
    }

    private int taken(int i, int kind) {
        if (!in(kind, 0, 6)) return -2;
        if (!in(i, 0, 17)) return -12;
        if (i > 5) return kind == 6 ? house.watched >> i - 6 & 1 : -13;
        if (!isMan(i)) return -11;
        List<List<Integer>> are = List.of(List.of(0), List.of(0, 1), List.of(0, 2), List.of(0, 1, 3), List.of(0, 2, 4), List.of(0, 5));
        return are.get(house.kind[i]).contains(kind) ? i : -13;
    }
}
