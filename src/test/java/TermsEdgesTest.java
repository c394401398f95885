import java.math.BigInteger;

/** The edges that the sentences of "Terms" name, but for those of TEXTS (TextEdgesTest) and refusals (FirstRefusalTest). */
public final class TermsEdgesTest {
    private static final Check CHECK = new Check("TermsEdgesTest");
    private static final String[] OF_AN_HOUR = {"hour(0, %d, 0)", "hour(0, %d, 1)", "hour(0, %d, 2)", "knows(0, %d)"};
    private static final String[] OF_A_MAN = {"put(%d, 0, 0)", "told(%d, 0)", "move(%d, %d)", "hour(%d, 0, 0)", "day(%d, 0)",
        "better(%d, 1)", "code(%d, 0)", "knows(%d, 0)", "still(%d)", "kinds(0, %d, 0)", "did(0, %d, 0)", "laws(0, %d)",
        "film(1, %d, 0)"};
    private static final String[] OF_A_SHEET = {"judge(%d, 0)", "kinds(%d, 0, 0)", "did(%d, 0, 0)", "laws(%d, 0)", "whose(%d)"};

    public static void main(String[] args) {
        lastCall();
        hours();
        doings();
        watched();
        menNumbered();
        sixMen();
        kindsAndMore();
        aDoingForEachHour();
        aTerm();
        places();
        cells();
        nobody();
        restless();
        stillSigns();
        stillMinds();
        muteSigns();
        muteMinds();
        liferMinds();
        liferServes();
        trustySigns();
        trustyServes();
        whateverIsNotTold();
        zeroAtLeast();
        companyWithoutMate();
        daysOfAnHour();
        daysOfAll();
        quiet();
        seeds();
        lotByLot();
        belowOften();
        firstLot();
        furtherLots();
        imageKeeps();
        imageKeepsNoMore();
        sheetsMissing();
        sheetsNumbered();
        sorts();
        fortyNumbers();
        CHECK.end();
    }

    private static AloneTogether of(int... kindMores) {
        AloneTogether x = new AloneTogether();
        for (int kindMore : kindMores) x.man(kindMore);
        return x;
    }

    private static void lastCall() {
        CHECK.of("An object is used for at most 512 calls after it has been made");
        String[] calls = {"image()", "put(0, 3, 5)", "feed(5, 99, 111, 117, 110, 116)", "text()", "watches(8)", "sheet(0, 2, 40)",
            "cell(0, 39, 7)", "copy(0, 20, 0, 0, 20)", "live()", "put(1, 3, 4)", "beds(0)", "odds(99999, 40, 5, 9, 0)",
            "back()", "film(1, 0, 12)", "drawn(5, 5)", "menBy(0, 2, 41, 1)", "force(0)", "move(0, 1)", "guard(3, 0)"};
        String[] last = {"count(0)", "man(0)", "watches(8)", "put(0, 12, 9)", "told(0, 3)", "all()", "text()", "image()", "back()",
            "sheet(3, 0, 40)", "whose(1)", "swap(1)", "taken(9, 6)"};
        for (String call : last) {
            AloneTogether many = of(0, 10), few = of(0, 10);
            // MEN, then 509 calls, and the last one: 512. Every second round undoes what the first one did.
            for (int i = 0; i < 2 * calls.length; i++) Calls.answer(few, calls[i % calls.length]);
            for (int i = 0; i < 26 * calls.length; i++) Calls.answer(many, calls[i % calls.length]);
            for (int i = 0; i < 509 - 26 * calls.length; i++) many.count(i % 5);
            CHECK.due("call 512, " + call, Calls.answer(many, call), Calls.answer(few, call));
        }
    }

    private static void hours() {
        CHECK.of("HOURS 0 .. 11");
        AloneTogether x = of(0, 0);
        for (int h = 0; h < 12; h++) {
            CHECK.due(x, "put(1, " + h + ", 5)", 0);
            CHECK.due(x, "hour(0, " + h + ", 0)", 5);
            CHECK.due(x, "knows(0, " + h + ")", 32);
            CHECK.due(x, "asks(1, 0, " + h + ")", 9);
        }
        for (String hour : new String[] {"-1", "12", "MIN", "MAX"}) {
            for (String call : OF_AN_HOUR) CHECK.due(x, call.replace("%d", hour), -7);
            CHECK.due(x, "asks(1, 0, " + hour + ")", -2);
        }
    }

    private static void doings() {
        CHECK.of("DOINGS 0 .. 5 (4 is a cough)");
        AloneTogether x = of(0, 0);
        CHECK.due(x, "put(0, 0, -1)", -7);
        CHECK.due(x, "put(0, 0, 5)", 0);
        CHECK.due(x, "put(0, 0, 6)", -7);
        CHECK.due(x, "put(0, 0, 0)", 5);
        x.watches(4095);
        for (int doing = 0; doing < 6; doing++) {
            AloneTogether y = of(0, 0);
            y.watches(4095);
            Check.law(y, "mine = " + doing, "1", "1");
            CHECK.due(y, "drawn(0, 10)", doing == 4 ? 24 : 0);
        }
    }

    private static void watched() {
        CHECK.of("WATCHED: some HOURS (bits; none at first)");
        AloneTogether x = new AloneTogether();
        for (int h = 0; h < 12; h++) CHECK.due(x, "taken(" + (6 + h) + ", 6)", 0);
        for (int only = 0; only < 12; only++) {
            x.watches(1 << only);
            for (int h = 0; h < 12; h++) CHECK.due(x, "taken(" + (6 + h) + ", 6)", h == only ? 1 : 0);
        }
    }

    private static void menNumbered() {
        CHECK.of("MEN are numbered from 0 on");
        for (int men = 0; men <= 6; men++) {
            AloneTogether x = new AloneTogether();
            x.sheet(0, 0, 0);
            for (int m = 0; m < men; m++) CHECK.due(x, "man(0)", m);
            for (int m = 0; m < men; m++) isThere(x, "" + m);
            for (String m : new String[] {"-1", "" + men, "6", "MIN", "MAX"}) isNotThere(x, m);
        }
        CHECK.of("MEN that came since are none");
        AloneTogether x = of(0, 0, 0);
        x.sheet(0, 0, 0);
        x.image();
        x.man(0);
        x.back();
        isThere(x, "2");
        isNotThere(x, "3");
    }

    private static void isThere(AloneTogether x, String m) {
        for (String call : OF_A_MAN) CHECK.due(call + " of " + m, Calls.answer(x, call.replace("%d", m)) == -5 ? 0 : 1, 1);
        CHECK.due(x, "asks(1, " + m + ", 0)", 9);
        CHECK.due(x, "codes(" + m + ", 0)", 1);
        CHECK.due(x, "unseen(" + m + ", 0, 0)", 1);
        CHECK.due(x, "judge(0, " + m + ")", -1);
        CHECK.due(x, "taken(" + m + ", 0)", Integer.parseInt(m));
    }

    private static void isNotThere(AloneTogether x, String m) {
        for (String call : OF_A_MAN) CHECK.due(x, call.replace("%d", m), -5);
        CHECK.due(x, "asks(1, " + m + ", 0)", -2);
        CHECK.due(x, "codes(" + m + ", 0)", AloneTogether.NO);
        CHECK.due(x, "unseen(" + m + ", 0, 0)", AloneTogether.NO);
        CHECK.due(x, "judge(0, " + m + ")", -5);
        if (x.count(0) == 0) return;
        CHECK.due(x, "move(0, " + m + ")", -5);
        CHECK.due(x, "move(" + m + ", 0)", -5);
    }

    private static void sixMen() {
        CHECK.of("MEN are numbered from 0 on, 6 at most");
        AloneTogether x = of(0, 0, 0, 0, 0);
        CHECK.due(x, "man(0)", 5);
        CHECK.due(x, "man(0)", -4);
        CHECK.due(x, "count(0)", 6);
    }

    private static void kindsAndMore() {
        CHECK.of("of a KIND, with MORE (0 .. 9)");
        for (int kind = 0; kind < 6; kind++) {
            AloneTogether x = of(10 * kind, 10 * kind + 9);
            for (int m = 0; m < 2; m++) {
                CHECK.due(x, "told(" + m + ", 13)", kind);
                CHECK.due(x, "told(" + m + ", 14)", 9 * m);
            }
        }
        CHECK.due(new AloneTogether(), "man(-1)", -2);
        CHECK.due(new AloneTogether(), "man(60)", -2);
    }

    private static void aDoingForEachHour() {
        CHECK.of("for each HOUR a DOING (0 as one comes)");
        AloneTogether x = of(0, 0);
        for (int h = 0; h < 12; h++) CHECK.due(x, "told(1, " + h + ")", 0);
        for (int h = 0; h < 12; h++) x.put(1, h, h % 6);
        for (int h = 0; h < 12; h++) CHECK.due(x, "told(1, " + h + ")", h % 6);
        for (int h = 0; h < 12; h++) CHECK.due(x, "told(0, " + h + ")", 0);
        cameAgain(x);
    }

    /** One who comes where another one was, who is none now. */
    private static void cameAgain(AloneTogether x) {
        x.image();
        x.man(0);
        Check.doings(x, 2, 5, 5, 5, 5, 5, 5, 5, 5, 5, 5, 5, 5);
        x.put(2, 12, 9999);
        x.back();
        x.man(0);
        for (int what = 0; what < 13; what++) CHECK.due(x, "told(2, " + what + ")", 0);
    }

    private static void aTerm() {
        CHECK.of("a TERM (days, 0 .. 9999; 0 as one comes)");
        AloneTogether x = of(59);
        CHECK.due(x, "told(0, 12)", 0);
        CHECK.due(x, "put(0, 12, -1)", -7);
        CHECK.due(x, "put(0, 12, 9999)", 0);
        CHECK.due(x, "put(0, 12, 10000)", -7);
        CHECK.due(x, "told(0, 12)", 9999);
        CHECK.due(x, "put(0, 12, 0)", 9999);
        CHECK.due(x, "told(0, 12)", 0);
    }

    private static void places() {
        CHECK.of("PLACES 0 .. 5: MEN are at as many of the first ones, one at each (one who comes is at the next)");
        AloneTogether x = new AloneTogether();
        for (int m = 0; m < 6; m++) {
            x.man(0);
            CHECK.due(x, "told(" + m + ", 15)", m);
            x.move(0, m);
            int taken = 0;
            for (int i = 0; i <= m; i++) taken |= 1 << x.told(i, 15);
            CHECK.due("PLACES of " + (m + 1), taken, (1 << m + 1) - 1);
        }
    }

    private static void cells() {
        CHECK.of("PLACES 0 and 1, 2 and 3, 4 and 5 are CELLS");
        AloneTogether x = of(0, 0, 0, 0, 0, 0);
        int[] mates = {1, 0, 3, 2, 5, 4};
        for (int m = 0; m < 6; m++) CHECK.due(x, "told(" + m + ", 16)", mates[m]);
        x.move(1, 2);
        x.move(3, 4);
        int[] moved = {2, 4, 0, 5, 1, 3};
        for (int m = 0; m < 6; m++) CHECK.due(x, "told(" + m + ", 16)", moved[m]);
    }

    private static void nobody() {
        CHECK.of("a man's MATE is who is at the other PLACE of his CELL, or nobody");
        for (int men = 1; men <= 5; men += 2) {
            AloneTogether x = new AloneTogether();
            for (int m = 0; m < men; m++) x.man(0);
            int last = men - 1;
            CHECK.due(x, "told(" + last + ", 16)", -1);
            x.move(0, last);
            CHECK.due(x, "told(0, 16)", -1);
            CHECK.due(x, "man(0)", men);
            CHECK.due(x, "told(0, 16)", men);
            CHECK.due(x, "told(" + men + ", 16)", 0);
        }
    }

    /** What DOINGS 0 .. 5 of a KIND are to the MATE. */
    private static void signs(int kind, int... due) {
        AloneTogether x = of(0, 10 * kind);
        for (int doing = 0; doing < 6; doing++) {
            x.put(1, 0, doing);
            CHECK.due("KIND " + kind + " SIGNS " + doing, x.hour(0, 0, 0), due[doing]);
        }
    }

    /** What a MAN minds, the text saying so much. */
    private static void minds(int kindMore, int counts, int due) {
        AloneTogether x = of(kindMore, 0);
        Check.law(x, "" + counts, "0", "0");
        CHECK.due("COMPANY of " + kindMore + ", the text saying " + counts, x.hour(0, 0, 1), due);
    }

    /** What a MAN serves, the text saying so many. */
    private static void serves(int kindMore, int pays, int due) {
        AloneTogether x = of(kindMore, 0);
        x.watches(1);
        Check.law(x, "99", "" + pays, "0");
        CHECK.due("DAYS of " + kindMore + ", the text saying " + pays, x.hour(0, 0, 2), due);
    }

    private static void restless() {
        CHECK.of("0 MAN: that DOING");
        signs(0, 0, 1, 2, 3, 4, 5);
        CHECK.of("1 RESTLESS (a MAN): SIGNS 1 more, 5 at most");
        signs(1, 1, 2, 3, 4, 5, 5);
    }

    private static void stillSigns() {
        CHECK.of("2 STILL (a MAN): SIGNS 0, if the DOING is below 3");
        signs(2, 0, 0, 0, 3, 4, 5);
    }

    private static void stillMinds() {
        CHECK.of("2 STILL: MINDS half (cut)");
        int[] counts = {0, 1, 2, 3, 98, 99}, due = {0, 0, 1, 1, 49, 49};
        for (int i = 0; i < 6; i++) minds(29, counts[i], due[i]);
    }

    private static void muteSigns() {
        CHECK.of("3 MUTE (a RESTLESS): SIGNS 0, if the DOING is above 2, else as a RESTLESS");
        signs(3, 1, 2, 3, 0, 0, 0);
    }

    private static void muteMinds() {
        CHECK.of("3 MUTE: MINDS MORE more than the text says");
        minds(30, 0, 0);
        minds(39, 0, 9);
        minds(31, 7, 8);
        minds(39, 99, 108);
        minds(39, 100, 108);
        minds(39, -9, 9);
    }

    private static void liferMinds() {
        CHECK.of("4 LIFER (a STILL): MINDS 0, if the text says MORE or less, else as a STILL");
        minds(40, 0, 0);
        minds(40, 1, 0);
        minds(40, 2, 1);
        minds(45, 4, 0);
        minds(45, 5, 0);
        minds(45, 6, 3);
        minds(49, 9, 0);
        minds(49, 10, 5);
        minds(49, 99, 49);
    }

    private static void liferServes() {
        CHECK.of("4 LIFER: SERVES a third (cut)");
        int[] pays = {0, 2, 3, 5, 6, 98, 99}, due = {0, 0, 1, 1, 2, 32, 33};
        for (int i = 0; i < 7; i++) serves(49, pays[i], due[i]);
    }

    private static void trustySigns() {
        CHECK.of("5 TRUSTY (a MAN): SIGNS 0, if the DOING is 5");
        signs(5, 0, 1, 2, 3, 4, 0);
    }

    private static void trustyServes() {
        CHECK.of("5 TRUSTY: SERVES MORE less, 0 at least");
        serves(50, 0, 0);
        serves(50, 99, 99);
        serves(59, 0, 0);
        serves(59, 8, 0);
        serves(59, 9, 0);
        serves(59, 10, 1);
        serves(59, 99, 90);
    }

    private static void whateverIsNotTold() {
        CHECK.of("Whatever isn't told is as of the KIND above");
        for (int kind : new int[] {0, 1, 5}) minds(10 * kind + 9, 7, 7);
        for (int kind : new int[] {0, 1, 2, 3}) serves(10 * kind + 9, 8, 8);
        signs(4, 0, 0, 0, 3, 4, 5);
    }

    private static void zeroAtLeast() {
        CHECK.of("MINDS, SERVES 0 at least, in the end");
        for (int kind = 0; kind < 6; kind++) {
            minds(10 * kind, -1, 0);
            minds(10 * kind, -9999, 0);
            serves(10 * kind + 9, -1, 0);
            serves(10 * kind + 9, -9999, 0);
        }
    }

    private static void companyWithoutMate() {
        CHECK.of("In an HOUR a MAN with a MATE has COMPANY: how much he MINDS, counts being told; without one 0");
        AloneTogether x = of(39);
        x.watches(4095);
        Check.law(x, "99", "99", "99");
        for (int what = 0; what < 3; what++) CHECK.due(x, "hour(0, 0, " + what + ")", 0);
        CHECK.due(x, "day(0, 3)", 0);
        x.man(0);
        CHECK.due(x, "hour(0, 0, 1)", 108);
    }

    private static void daysOfAnHour() {
        CHECK.of("DAYS of it: what he SERVES, pays being told, if the HOUR is WATCHED, and he has any COMPANY; else 0");
        for (int i = 0; i < 4; i++) {
            AloneTogether x = of(0, 0);
            x.watches(i / 2 << 11);
            Check.law(x, "" + i % 2, "99", "0");
            CHECK.due("DAYS, watched " + i / 2 + ", COMPANY " + i % 2, x.hour(0, 11, 2), i == 3 ? 99 : 0);
        }
    }

    private static void daysOfAll() {
        CHECK.of("DAYS of his day: of all HOURS, together; ALL: of all MEN");
        AloneTogether x = of(0, 0, 0, 0, 0, 0);
        Check.law(x, "1", "99", "0");
        for (int h = 0; h < 12; h++) {
            x.watches(1 << h);
            CHECK.due(x, "day(5, 0)", 99);
            CHECK.due(x, "all()", 6 * 99);
        }
        x.watches(4095);
        CHECK.due(x, "day(5, 0)", 12 * 99);
        CHECK.due(x, "all()", 6 * 12 * 99);
        CHECK.due(new AloneTogether(), "all()", 0);
    }

    private static void quiet() {
        CHECK.of("QUIET: an HOUR in which neither he nor his MATE has any COMPANY");
        // One of these two has COMPANY if his own DOING is 1.
        for (int i = 0; i < 4; i++) {
            AloneTogether x = of(0, 0);
            Check.law(x, "mine = 1", "0", "0");
            x.put(0, 11, i / 2);
            x.put(1, 11, i % 2);
            CHECK.due("as he does, " + i, x.still(0), i % 2 == 1 ? -1 : i / 2);
            CHECK.due("as the MATE does, " + i, x.still(1), i / 2 == 1 ? -1 : i % 2);
            CHECK.due("codes, " + i, x.codes(0, 12), i % 2 == 1 ? 0 : 244140625);
        }
        AloneTogether alone = of(39);
        Check.law(alone, "99", "0", "0");
        CHECK.due(alone, "still(0)", 0);
    }

    /** Two MATES, of whom ALL tells how often they cough in the HOURS that are WATCHED. */
    private static AloneTogether coughers(int watched) {
        AloneTogether x = of(0, 0);
        x.watches(watched);
        Check.law(x, "mine = 4", "1", "0");
        return x;
    }

    private static void seeds() {
        CHECK.of("COUGHS by a SEED (0 .. 99999)");
        AloneTogether x = coughers(4095);
        CHECK.due(x, "drawn(-1, 10)", -2);
        CHECK.due(x, "drawn(0, 10)", 24);
        CHECK.due(x, "drawn(99999, 10)", 24);
        CHECK.due(x, "drawn(100000, 10)", -2);
        CHECK.due(x, "drawn(MIN, 10)", -2);
        CHECK.due(x, "drawn(MAX, 10)", -2);
    }

    private static int lastDigit(int seed, int lots) {
        BigInteger lot = BigInteger.valueOf(seed + 1L), modulo = BigInteger.valueOf(2147483647);
        for (int i = 0; i < lots; i++) lot = lot.multiply(BigInteger.valueOf(48271)).mod(modulo);
        return lot.mod(BigInteger.TEN).intValue();
    }

    /** Man m coughs in an HOUR if, and only if, often is above the last digit of the LOT of that number. */
    private static void lotOf(AloneTogether x, int seed, int m, int lot) {
        int digit = lastDigit(seed, lot);
        String what = "COUGHS of " + m + " by LOT " + lot + " of SEED " + seed;
        for (int often = 0; often <= 10; often++) CHECK.due(what + ", often " + often, x.drawn(seed, often), often > digit ? 1 : 0);
    }

    /** Man m alone has DAYS, one for each cough. */
    private static AloneTogether cougher(int men, int m, int watched) {
        AloneTogether x = new AloneTogether();
        for (int i = 0; i < men; i++) x.man(i == m ? 1 : 0);
        x.watches(watched);
        Check.law(x, "more and mine = 4", "1", "0");
        return x;
    }

    private static void lotByLot() {
        CHECK.of("HOUR by HOUR, man by man a LOT");
        for (int men = 2; men <= 6; men += 2) {
            for (int m = 0; m < men; m++) {
                for (int h = 0; h < 12; h += 11) lotOf(cougher(men, m, 1 << h), 77, m, men * h + m + 1);
            }
        }
        // A man without a MATE has a LOT, too; and the order is that of MEN, not that of PLACES.
        AloneTogether x = cougher(3, 0, 1 << 5);
        x.move(0, 1);
        lotOf(x, 5, 0, 3 * 5 + 1);
        x.move(1, 2);
        lotOf(x, 5, 0, 3 * 5 + 1);
    }

    private static void belowOften() {
        CHECK.of("he coughs then, whatever he would do, if LOT modulo 10 is below often (0 .. 10)");
        AloneTogether x = coughers(4095);
        CHECK.due(x, "drawn(5, -1)", -2);
        CHECK.due(x, "drawn(5, 0)", 0);
        CHECK.due(x, "drawn(5, 10)", 24);
        CHECK.due(x, "drawn(5, 11)", -2);
        for (int doing = 0; doing < 6; doing++) {
            AloneTogether y = coughers(1);
            Check.doings(y, 0, doing);
            Check.doings(y, 1, doing);
            CHECK.due(y, "drawn(5, 10)", 2);
            CHECK.due(y, "drawn(5, 0)", doing == 4 ? 2 : 0);
        }
        // A cough is a SIGN to the MATE, too, as it is one of such a KIND.
        int[] signs = {4, 5, 4, 0, 4, 4};
        for (int kind = 0; kind < 6; kind++) {
            AloneTogether y = of(1, 10 * kind);
            y.watches(4095);
            Check.law(y, "more", "his", "0");
            CHECK.due(y, "drawn(5, 0)", kind == 1 || kind == 3 ? 12 : 0);
            CHECK.due(y, "drawn(5, 10)", 12 * signs[kind]);
        }
    }

    private static void firstLot() {
        CHECK.of("LOTS: the first is (SEED and 1) times 48271 modulo 2147483647");
        // 44488 times 48271 is the last one below 2147483647; 44489 times wraps.
        CHECK.due("the last digit by SEED 44487", lastDigit(44487, 1), 8);
        CHECK.due("the last digit by SEED 44488", lastDigit(44488, 1), 2);
        CHECK.due("the last digit by SEED 99999", lastDigit(99999, 1), 6);
        AloneTogether x = cougher(2, 0, 1);
        for (int seed : new int[] {0, 1, 44487, 44488, 99998, 99999}) lotOf(x, seed, 0, 1);
    }

    private static void furtherLots() {
        CHECK.of("each further one the last times 48271 modulo 2147483647");
        for (int h = 0; h < 12; h++) {
            for (int seed : new int[] {0, 44488, 99999}) lotOf(cougher(2, 1, 1 << h), seed, 1, 2 * h + 2);
        }
    }

    private static AloneTogether changedSinceImage() {
        AloneTogether x = Houses.three();
        Check.text(x, "ys 4;sees 5;");
        x.image();
        x.move(1, 2);
        for (int m = 0; m < 3; m++) {
            for (int h = 0; h < 12; h++) x.put(m, h, 3);
            x.put(m, 12, 1);
        }
        x.watches(1);
        x.force(2);
        x.man(55);
        x.back();
        return x;
    }

    private static AloneTogether unchanged() {
        AloneTogether x = Houses.three();
        Check.text(x, "ys 4;sees 5;");
        x.image();
        return x;
    }

    private static void imageKeeps() {
        CHECK.of("AN IMAGE keeps DOINGS, TERMS, PLACES of all, how many MEN there are, WATCHED, THE LAW");
        for (int side = 0; side < Whole.SIDES; side++) {
            String was = Whole.side(unchanged(), side).toString(), is = Whole.side(changedSinceImage(), side).toString();
            CHECK.due("back: " + is + " as " + was, is.equals(was) ? 1 : 0, 1);
        }
    }

    private static void imageKeepsNoMore() {
        CHECK.of("AN IMAGE keeps no TEXTS, THE TAPE, SHEETS");
        AloneTogether x = new AloneTogether();
        x.image();
        Check.law(x, "1", "2", "3");
        Check.feed(x, "abc");
        Check.row(x, 0, 0, 7, 8);
        CHECK.due(x, "back()", 0);
        CHECK.due(x, "count(2)", 2);
        CHECK.due(x, "count(3)", 0);
        CHECK.due(x, "count(4)", 3);
        CHECK.due(x, "menBy(0, 0, 0, 2)", 2);
    }

    private static void sheetsMissing() {
        CHECK.of("SHEETS 0 .. 3 are rows of numbers, or missing (as all are at first)");
        AloneTogether x = of(0);
        for (int s = 0; s < 4; s++) {
            for (String call : OF_A_SHEET) CHECK.due(x, call.replace("%d", "" + s), -11);
            CHECK.due(x, "cell(" + s + ", 0, 0)", -11);
            CHECK.due(x, "copy(" + s + ", 0, " + s + ", 0, 0)", -11);
            CHECK.due(x, "menBy(" + s + ", 0, 0, 0)", -11);
        }
    }

    private static void sheetsNumbered() {
        CHECK.of("SHEETS 0 .. 3");
        AloneTogether x = of(0);
        for (int s = 0; s < 4; s++) x.sheet(s, 0, s);
        for (int s = 0; s < 4; s++) CHECK.due(x, "copy(" + s + ", " + s + ", " + s + ", " + s + ", 0)", 0);
        for (int s = 0; s < 4; s++) CHECK.due(x, "cell(" + s + ", " + s + ", 0)", -12);
        for (String s : new String[] {"-1", "4", "MIN", "MAX"}) {
            for (String call : OF_A_SHEET) CHECK.due(x, call.replace("%d", s), -2);
            CHECK.due(x, "film(" + s + ", 0, 0)", -2);
            CHECK.due(x, "sheet(" + s + ", 0, 0)", -2);
            CHECK.due(x, "sheet(" + s + ", -1, 0)", -2);
            CHECK.due(x, "cell(" + s + ", 0, 0)", -2);
            CHECK.due(x, "copy(" + s + ", 0, 0, 0, 0)", -2);
            CHECK.due(x, "copy(0, 0, " + s + ", 0, 0)", -2);
            CHECK.due(x, "menBy(" + s + ", 0, 0, 0)", -2);
        }
    }

    private static void sorts() {
        CHECK.of("of sort 0 bytes, 1 shorts, 2 ints");
        for (int sort = 0; sort < 3; sort++) {
            AloneTogether x = new AloneTogether();
            CHECK.due(x, "sheet(0, " + sort + ", 1)", 1);
            for (int asked = 0; asked < 3; asked++) CHECK.due(x, "menBy(0, " + asked + ", 0, 1)", asked == sort ? 1 : -13);
        }
        CHECK.due(new AloneTogether(), "sheet(0, -2, 1)", -2);
        CHECK.due(new AloneTogether(), "sheet(0, 3, 1)", -2);
    }

    private static void fortyNumbers() {
        CHECK.of("40 at most");
        for (int sort = 0; sort < 3; sort++) {
            AloneTogether x = new AloneTogether();
            CHECK.due(x, "sheet(0, " + sort + ", 41)", -2);
            CHECK.due(x, "cell(0, 0, 1)", -11);
            CHECK.due(x, "sheet(0, " + sort + ", 40)", 1);
            CHECK.due(x, "cell(0, 39, 1)", 1);
            CHECK.due(x, "cell(0, 40, 1)", -12);
        }
    }
}
