import java.math.BigInteger;

/** Promises 31 to 34: coughs by lots, images. */
public final class CoughsTest {
    private static final Check CHECK = new Check("CoughsTest");

    public static void main(String[] args) {
        drawn();
        drawnWrong();
        odds();
        oddsWrong();
        image();
        imageOfFewer();
        back();
        CHECK.end();
    }

    /** Three MEN, two of them MATES: ALL is how often these two cough. */
    private static AloneTogether three() {
        AloneTogether x = new AloneTogether();
        for (int m = 0; m < 3; m++) x.man(0);
        x.watches(4095);
        Check.law(x, "mine = 4", "1", "0");
        return x;
    }

    /** How often one of the first two of three MEN coughs in the HOURS of a set, by lots told here anew. */
    private static int coughs(int seed, int often, int set) {
        BigInteger lot = BigInteger.valueOf(seed).add(BigInteger.ONE);
        BigInteger modulo = BigInteger.valueOf(2147483647);
        int sum = 0;
        for (int i = 0; i < 36; i++) {
            lot = lot.multiply(BigInteger.valueOf(48271)).mod(modulo);
            boolean coughs = lot.mod(BigInteger.TEN).intValue() < often;
            if (coughs && i % 3 < 2 && (set >> i / 3 & 1) == 1) sum++;
        }
        return sum;
    }

    private static void drawn() {
        CHECK.due("drawn of none", new AloneTogether().drawn(0, 10), 0);
        AloneTogether x = three();
        for (int often = 0; often <= 10; often++) {
            CHECK.due("drawn, often " + often, x.drawn(0, often), coughs(0, often, 4095));
            CHECK.due("drawn, often " + often, x.drawn(99999, often), coughs(99999, often, 4095));
        }
        CHECK.due("never", x.drawn(5, 0), 0);
        CHECK.due("ever", x.drawn(5, 10), 24);
        // The first three LOTS of SEED 0 are 48271, 182605794, 1291394886.
        x.watches(1);
        CHECK.due("whose last digits are 1, 4 (and 6): often 1", x.drawn(0, 1), 0);
        CHECK.due("often 2", x.drawn(0, 2), 1);
        CHECK.due("often 4", x.drawn(0, 4), 1);
        CHECK.due("often 5", x.drawn(0, 5), 2);
        for (int h = 0; h < 12; h++) {
            AloneTogether y = three();
            y.watches(1 << h);
            CHECK.due("drawn in HOUR " + h, y.drawn(77, 4), coughs(77, 4, 1 << h));
        }
        x.put(0, 0, 2);
        x.drawn(1, 10);
        CHECK.due("drawn changes nothing", x.told(0, 0), 2);
    }

    private static void drawnWrong() {
        AloneTogether x = three();
        CHECK.due("SEED -1", x.drawn(-1, 0), -2);
        CHECK.due("SEED 100000", x.drawn(100000, 0), -2);
        CHECK.due("often -1", x.drawn(0, -1), -2);
        CHECK.due("often 11", x.drawn(0, 11), -2);
    }

    private static void odds(AloneTogether x, int seed, int seeds, int often, int days) {
        int low = 0;
        for (int i = 0; i < seeds; i++) {
            if (coughs(seed + i, often, 4095) <= days) low++;
        }
        int divisor = BigInteger.valueOf(low).gcd(BigInteger.valueOf(seeds)).intValue();
        CHECK.due("odds above", x.odds(seed, seeds, often, days, 0), low / divisor);
        CHECK.due("odds below", x.odds(seed, seeds, often, days, 1), seeds / divisor);
    }

    private static void odds() {
        AloneTogether x = three();
        for (int days = 8; days < 16; days++) {
            odds(x, 10, 40, 5, days);
            odds(x, 99990, 36, 5, days);
            odds(x, 99999, 40, 4, days);
        }
        odds(x, 0, 1, 5, 0);
        odds(x, 0, 1, 10, 24);
        odds(x, 0, 7, 10, 23);
        odds(x, 0, 7, 0, 0);
        odds(x, 3, 40, 9, 9999);
    }

    private static void oddsWrong() {
        AloneTogether x = three();
        long no = AloneTogether.NO;
        CHECK.due("SEED -1", x.odds(-1, 1, 0, 0, 0), no);
        CHECK.due("SEED 100000", x.odds(100000, 1, 0, 0, 0), no);
        CHECK.due("seeds 0", x.odds(0, 0, 0, 0, 0), no);
        CHECK.due("seeds 41", x.odds(0, 41, 0, 0, 0), no);
        CHECK.due("often -1", x.odds(0, 1, -1, 0, 0), no);
        CHECK.due("often 11", x.odds(0, 1, 11, 0, 0), no);
        CHECK.due("days -1", x.odds(0, 1, 0, -1, 0), no);
        CHECK.due("days 10000", x.odds(0, 1, 0, 10000, 0), no);
        CHECK.due("part -1", x.odds(0, 1, 0, 0, -1), no);
        CHECK.due("part 2", x.odds(0, 1, 0, 0, 2), no);
    }

    private static AloneTogether pictured() {
        AloneTogether x = three();
        x.put(1, 5, 3);
        x.put(1, 12, 44);
        x.move(0, 2);
        x.watches(7);
        CHECK.due("image", x.image(), 3);
        return x;
    }

    private static void otherwise(AloneTogether x) {
        x.man(55);
        x.put(1, 5, 1);
        x.put(1, 12, 9);
        x.put(0, 0, 5);
        x.move(1, 3);
        x.watches(9);
        x.force(0);
        x.sheet(0, 0, 3);
        Check.feed(x, "abc");
    }

    private static void asPictured(AloneTogether x) {
        CHECK.due("MEN", x.count(0), 3);
        CHECK.due("DOING", x.told(1, 5), 3);
        CHECK.due("DOING", x.told(0, 0), 0);
        CHECK.due("TERM", x.told(1, 12), 44);
        CHECK.due("PLACE", x.told(0, 15) * 100 + x.told(1, 15) * 10 + x.told(2, 15), 210);
        CHECK.due("WATCHED", x.count(1), 7);
        CHECK.due("THE LAW", x.count(3), 1);
        CHECK.due("its word", x.asks(1, 0, 0), 1);
        CHECK.due("none there", x.told(3, 13), -5);
    }

    private static void image() {
        AloneTogether x = pictured();
        asPictured(x);
        otherwise(x);
        CHECK.due("back", x.back(), 3);
        asPictured(x);
        CHECK.due("SHEETS stay", x.cell(0, 2, 1), 1);
        CHECK.due("THE TAPE stays", x.count(4), 3);
        x.text();
        CHECK.due("TEXTS", x.count(2), 2);
        Check.law(x, "1", "2", "3");
        otherwise(x);
        CHECK.due("back again", x.back(), 3);
        asPictured(x);
        CHECK.due("TEXTS stay", x.count(2), 3);
    }

    private static void imageOfFewer() {
        AloneTogether x = pictured();
        otherwise(x);
        for (int h = 0; h < 12; h++) x.put(3, h, 5);
        x.put(3, 12, 99);
        x.back();
        CHECK.due("another one comes", x.man(11), 3);
        CHECK.due("of his own KIND", x.told(3, 13) * 10 + x.told(3, 14), 11);
        for (int h = 0; h < 12; h++) CHECK.due("with nothing done", x.told(3, h), 0);
        CHECK.due("with no TERM", x.told(3, 12), 0);
        CHECK.due("at the next PLACE", x.told(3, 15), 3);
        CHECK.due("a new image", x.image(), 4);
        x.man(0);
        x.put(3, 1, 2);
        CHECK.due("back to it", x.back(), 4);
        CHECK.due("his DOING", x.told(3, 1), 0);
        CHECK.due("his KIND", x.told(3, 13), 1);
    }

    private static void back() {
        AloneTogether x = new AloneTogether();
        CHECK.due("no image", x.back(), -3);
        CHECK.due("an image of none", x.image(), 0);
        x.man(0);
        x.watches(3);
        CHECK.due("back to none", x.back(), 0);
        CHECK.due("nobody", x.count(0), 0);
        CHECK.due("nothing watched", x.count(1), 0);
    }
}
