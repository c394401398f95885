import java.math.BigInteger;
import java.util.Random;

/**
 * Promises 7 and 12 to 32 in houses made up by chance: each answer is compared with what comes of it in a House that is
 * truly otherwise. What is asked must change nothing.
 */
public final class ThoughtTest {
    private static final Check CHECK = new Check("ThoughtTest");
    private static final int ROUNDS = 400;

    private static House house;
    private static AloneTogether x;

    public static void main(String[] args) {
        Random chance = new Random(20261118);
        for (int round = 0; round < ROUNDS; round++) {
            house = House.random(chance);
            for (int m = 0; m < house.men; m++) ofOne(m);
            ofAll(chance);
            toldDays(chance);
            x = house.built();
            live();
        }
        CHECK.end();
    }

    private static void due(String call, long got, long want) {
        CHECK.due(call + " in a house of law " + house.laws.get(house.law).text, got, want);
    }

    private static void ofOne(int m) {
        x = house.built();
        better(m);
        codes(m);
        knows(m);
        unseen(m);
        dayReallyIs(m);
        asReallyIs();
    }

    private static void ofAll(Random chance) {
        x = house.built();
        swap();
        beds();
        guard();
        coughs(chance);
        asReallyIs();
    }

    private static void asReallyIs() {
        due("count(0)", x.count(0), house.men);
        due("count(1)", x.count(1), house.watched);
        due("count(2)", x.count(2), house.laws.size());
        due("count(3)", x.count(3), house.law);
        due("all()", x.all(), house.all());
        for (int m = 0; m < house.men; m++) {
            due("TERM", x.told(m, 12), house.term[m]);
            due("PLACE", x.told(m, 15), house.place[m]);
            due("MATE", x.told(m, 16), house.mate(m));
            for (int h = 0; h < House.HOURS; h++) due("DOING", x.told(m, h), house.doing[m][h]);
        }
    }

    private static void dayReallyIs(int m) {
        int hours = 0, first = -1, most = 0;
        for (int h = 0; h < House.HOURS; h++) {
            for (int part = 0; part < 3; part++) due("asks", x.asks(part, m, h), house.says(part, m, h));
            due("hour 0", x.hour(m, h, 0), house.sign(m, h));
            due("hour 1", x.hour(m, h, 1), house.company(m, h));
            due("hour 2", x.hour(m, h, 2), house.days(m, h));
            int company = house.company(m, h);
            if (company > 0) hours++;
            if (company > 0 && first < 0) first = h;
            most = Math.max(most, company);
        }
        due("day 0", x.day(m, 0), house.day(m));
        due("day 1", x.day(m, 1), hours);
        due("day 2", x.day(m, 2), first);
        due("day 3", x.day(m, 3), most);
    }

    private static void better(int m) {
        int least = house.all(), best = -1;
        for (int i = 0; i < 120; i++) {
            if (i % 10 > 5) continue;
            House other = house.copy();
            other.doing[m][i / 10] = i % 10;
            if (other.all() < least) {
                least = other.all();
                best = i;
            }
        }
        due("better(m, 0)", x.better(m, 0), best);
        due("better(m, 1)", x.better(m, 1), least);
    }

    private static void swap() {
        int least = house.all(), best = -1;
        for (int a = 0; a < house.men; a++) {
            for (int b = a + 1; b < house.men; b++) {
                House other = house.copy();
                other.place[a] = house.place[b];
                other.place[b] = house.place[a];
                if (other.all() < least) {
                    least = other.all();
                    best = 10 * a + b;
                }
            }
        }
        due("swap(0)", x.swap(0), best);
        due("swap(1)", x.swap(1), least);
    }

    private static void beds() {
        int least = Integer.MAX_VALUE, best = 0;
        int ways = (int) Math.pow(6, house.men);
        House other = house.copy();
        for (int way = 0; way < ways; way++) {
            int taken = 0, rest = way, digits = 0;
            // The last digit of a way is who lies at the last PLACE, so that the first way is the first in order.
            for (int place = house.men - 1, unit = 1; place >= 0; place--, unit *= 10, rest /= 6) {
                int m = rest % 6;
                taken |= 1 << m;
                other.place[m] = place;
                digits += unit * (m + 1);
            }
            if (taken != (1 << house.men) - 1) continue;
            int then = other.all();
            if (then < least) {
                least = then;
                best = digits;
            }
        }
        due("beds(0)", x.beds(0), best);
        due("beds(1)", x.beds(1), least);
    }

    private static void guard() {
        for (int n = 0; n < 4; n++) {
            int most = -1, best = -1;
            for (int set = 0; set < 4096; set++) {
                if (Integer.bitCount(set) != n) continue;
                House other = house.copy();
                other.watched = set;
                int then = other.all();
                if (then > most) {
                    most = then;
                    best = set;
                }
            }
            due("guard(n, 0)", x.guard(n, 0), best);
            due("guard(n, 1)", x.guard(n, 1), most);
        }
    }

    private static void codes(int m) {
        long ways = 1;
        int least = 0, changes = 0;
        for (int h = 0; h <= House.HOURS; h++) {
            due("codes", x.codes(m, h), ways);
            if (h < 10) due("code", x.code(m, h), ways == 0 ? -1 : least);
            if (h == House.HOURS) break;
            House other = house.copy();
            int quiet = 0, first = 0;
            for (int d = 5; d >= 0; d--) {
                other.doing[m][h] = d;
                if (!other.quiet(m, h)) continue;
                quiet++;
                first = d;
            }
            ways *= quiet;
            least = least * 10 + first + 1;
            if (quiet == 0) changes = -1000;
            else if (!house.quiet(m, h)) changes++;
        }
        due("still", x.still(m), changes < 0 ? -1 : changes);
    }

    private static void knows(int m) {
        int mate = house.mate(m);
        for (int h = 0; h < House.HOURS; h += 5) {
            int bits = 0;
            for (int d = 0; d < 6 && mate >= 0; d++) {
                House other = house.copy();
                other.doing[mate][h] = d;
                boolean same = other.sign(m, h) == house.sign(m, h) && other.company(m, h) == house.company(m, h);
                if (same) bits |= 1 << d;
            }
            due("knows", x.knows(m, h), bits);
        }
    }

    private static void unseen(int m) {
        BigInteger above = BigInteger.ONE, below = BigInteger.ONE;
        for (int n = 0; n <= 8; n++) {
            BigInteger divisor = above.gcd(below);
            due("unseen above", x.unseen(m, n, 0), above.divide(divisor).longValueExact());
            due("unseen below", x.unseen(m, n, 1), below.divide(divisor).longValueExact());
            if (house.company(m, n) == 0) continue;
            above = above.multiply(BigInteger.valueOf(100 - house.says(2, m, n)));
            below = below.multiply(BigInteger.valueOf(100));
        }
    }

    /** Days told of a man as he is, or as he would be, were something otherwise; sometimes of nobody. */
    private static void toldDays(Random chance) {
        for (int i = 0; i < 6 && house.men > 0; i++) {
            x = house.built();
            int m = chance.nextInt(house.men);
            House other = house.copy();
            int what = chance.nextInt(5);
            if (what == 1) other.kind[m] = chance.nextInt(6);
            if (what == 2) other.more[m] = chance.nextInt(10);
            if (what == 3 && other.mate(m) >= 0) other.doing[other.mate(m)][chance.nextInt(3)] = chance.nextInt(6);
            if (what == 4) other.law = chance.nextInt(other.laws.size());
            int[] row = new int[chance.nextInt(13)];
            for (int h = 0; h < row.length; h++) row[h] = other.company(m, h);
            if (row.length > 0 && chance.nextInt(8) == 0) row[chance.nextInt(row.length)] = chance.nextInt(100);
            Check.row(x, 1, chance.nextInt(3), row);
            told(row, m);
            due("film", x.film(2, m, row.length), row.length);
            due("judge of a film", x.judge(2, m), -1);
            asReallyIs();
        }
    }

    private static void told(int[] row, int m) {
        due("judge", x.judge(1, m), house.judged(row, m));
        int whose = 0, laws = 0;
        for (int i = 0; i < house.men; i++) whose |= bit(house, row, i, i);
        due("whose", x.whose(1), whose);
        for (int t = 0; t < house.laws.size(); t++) {
            House other = house.copy();
            other.law = t;
            laws |= bit(other, row, m, t);
        }
        due("laws", x.laws(1, m), laws);
        kinds(row, m, m, 0);
        kinds(row, m, house.mate(m), 2);
        for (int h = 0; h < House.HOURS; h++) {
            did(row, m, m, h, h);
            did(row, m, house.mate(m), h, 100 + h);
        }
    }

    private static int bit(House other, int[] row, int m, int bit) {
        return other.judged(row, m) == -1 ? 1 << bit : 0;
    }

    private static void kinds(int[] row, int m, int whose, int sort) {
        int kinds = whose < 0 ? -6 : 0, mores = kinds;
        for (int v = 0; v < 10 && whose >= 0; v++) {
            House other = house.copy();
            other.more[whose] = v;
            mores |= bit(other, row, m, v);
            if (v > 5) continue;
            other = house.copy();
            other.kind[whose] = v;
            kinds |= bit(other, row, m, v);
        }
        due("kinds of sort " + sort, x.kinds(1, m, sort), kinds);
        due("kinds of sort " + (sort + 1), x.kinds(1, m, sort + 1), mores);
    }

    private static void did(int[] row, int m, int whose, int h, int whoseHour) {
        int bits = whose < 0 ? -6 : 0;
        for (int d = 0; d < 6 && whose >= 0; d++) {
            House other = house.copy();
            other.doing[whose][h] = d;
            bits |= bit(other, row, m, d);
        }
        due("did in " + whoseHour, x.did(1, m, whoseHour), bits);
    }

    private static void coughs(Random chance) {
        int seed = chance.nextInt(100000), often = chance.nextInt(11), seeds = 1 + chance.nextInt(40);
        int days = chance.nextInt(house.all() + 100), low = 0;
        for (int i = 0; i < seeds; i++) {
            House other = house.copy();
            other.coughs(seed + i, often);
            if (i == 0) due("drawn", x.drawn(seed, often), other.all());
            if (other.all() <= days) low++;
        }
        // In lowest terms: crosswise they are alike, and no number above 1 divides both.
        long above = x.odds(seed, seeds, often, days, 0), below = x.odds(seed, seeds, often, days, 1);
        due("odds crosswise", above * seeds, below * low);
        for (int i = 2; i <= 40; i++) due("odds in lowest terms", above % i == 0 && below % i == 0 ? 1 : 0, 0);
    }

    private static void live() {
        int all = house.all();
        int[] days = new int[6];
        for (int m = 0; m < house.men; m++) days[m] = house.day(m);
        due("live", x.live(), all);
        for (int m = 0; m < house.men; m++) {
            house.term[m] = Math.min(9999, house.term[m] + days[m]);
            due("TERM after a day", x.told(m, 12), house.term[m]);
        }
        due("all() after a day", x.all(), house.all());
    }
}
