import java.util.function.Supplier;

/** The edges that promises 25 to 34 name. What is asked, or refused, changes nothing: such calls are made in houses told whole. */
public final class ToldDaysEdgesTest {
    private static final Check CHECK = new Check("ToldDaysEdgesTest");
    private static final Supplier<AloneTogether> EMPTY = Houses::empty, THREE = Houses::three, FULL = Houses::full;
    private static final String[] NO_SHEET = {"-1", "4", "MIN", "MAX"}, NOBODY = {"-1", "3", "6", "MIN", "MAX"};
    private static final String[] OF_A_DAY = {"judge(%s, %m)", "kinds(%s, %m, 0)", "did(%s, %m, 0)", "laws(%s, %m)"};

    public static void main(String[] args) {
        noSheet();
        missing();
        moreThanTwelve();
        nobody();
        judge();
        judgeNone();
        judgeNumbers();
        kinds();
        kindsSort();
        kindsNoMate();
        did();
        didWhoseHour();
        didNoMate();
        laws();
        whose();
        whoseOfNone();
        film();
        filmTruly();
        drawn();
        odds();
        oddsPastTheSeeds();
        oddsDaysOrLess();
        oddsLowestTerms();
        image();
        backState();
        back();
        backNone();
        CHECK.end();
    }

    private static AloneTogether of(int men, String counts) {
        AloneTogether x = new AloneTogether();
        for (int m = 0; m < men; m++) x.man(0);
        x.watches(4095);
        Check.law(x, counts, "1", "1");
        return x;
    }

    private static AloneTogether told(AloneTogether x, int... numbers) {
        Check.row(x, 0, 0, numbers);
        return x;
    }

    private static void noSheet() {
        CHECK.of("Promises 25 to 30: BAD: SHEET");
        for (String s : NO_SHEET) {
            for (String call : OF_A_DAY) CHECK.stays(THREE, call.replace("%s", s).replace("%m", "0"), -2);
            CHECK.stays(THREE, "whose(" + s + ")", -2);
            CHECK.stays(THREE, "film(" + s + ", 0, 1)", -2);
        }
        for (int s = 0; s < 4; s += 3) {
            AloneTogether x = of(2, "0");
            x.sheet(s, 0, 1);
            CHECK.due(x, "judge(" + s + ", 0)", -1);
            CHECK.due(x, "kinds(" + s + ", 0, 0)", 63);
            CHECK.due(x, "did(" + s + ", 0, 0)", 63);
            CHECK.due(x, "laws(" + s + ", 0)", 3);
            CHECK.due(x, "whose(" + s + ")", 3);
            CHECK.due(x, "film(" + s + ", 0, 1)", 1);
        }
    }

    private static void missing() {
        CHECK.of("Promises 25 to 29: -11");
        for (String call : OF_A_DAY) CHECK.stays(THREE, call.replace("%s", "3").replace("%m", "0"), -11);
        CHECK.stays(THREE, "whose(3)", -11);
        CHECK.stays(EMPTY, "whose(0)", -11);
    }

    private static void moreThanTwelve() {
        CHECK.of("Promises 25 to 29: A SHEET tells COMPANY in HOURS 0, 1, .. (12 at most); BAD: it tells more than 12");
        for (String call : OF_A_DAY) CHECK.stays(THREE, call.replace("%s", "1").replace("%m", "0"), -2);
        CHECK.stays(THREE, "whose(1)", -2);
        for (String call : OF_A_DAY) CHECK.stays(FULL, call.replace("%s", "0").replace("%m", "0"), -2);
        CHECK.stays(FULL, "whose(0)", -2);
        for (int n = 11; n <= 13; n++) {
            AloneTogether x = of(2, "0");
            x.sheet(0, 2, n);
            CHECK.due(x, "judge(0, 0)", n > 12 ? -2 : -1);
            CHECK.due(x, "kinds(0, 0, 3)", n > 12 ? -2 : 1023);
            CHECK.due(x, "did(0, 0, 111)", n > 12 ? -2 : 63);
            CHECK.due(x, "laws(0, 0)", n > 12 ? -2 : 3);
            CHECK.due(x, "whose(0)", n > 12 ? -2 : 3);
        }
    }

    private static void nobody() {
        CHECK.of("Promises 25 to 28, 30: -5: no such MAN");
        for (String m : NOBODY) {
            for (String call : OF_A_DAY) CHECK.stays(THREE, call.replace("%s", "0").replace("%m", m), -5);
            CHECK.stays(THREE, "film(0, " + m + ", 1)", -5);
        }
        for (String call : OF_A_DAY) CHECK.stays(FULL, call.replace("%s", "1").replace("%m", "6"), -5);
        CHECK.stays(EMPTY, "film(0, 0, 1)", -5);
    }

    private static void judge() {
        CHECK.of("Promise 25: the first HOUR that is otherwise");
        for (int h = 0; h < 12; h++) {
            AloneTogether x = told(of(2, "hour + 1"), 1, 2, 3, 4, 5, 6, 7, 8, 9, 10, 11, 12);
            CHECK.due(x, "judge(0, 0)", -1);
            x.cell(0, 11, 0);
            CHECK.due(x, "judge(0, 0)", 11);
            x.cell(0, h, 0);
            CHECK.due(x, "judge(0, 0)", h);
            CHECK.due(x, "judge(0, 1)", h);
        }
    }

    private static void judgeNone() {
        CHECK.of("Promise 25: -1: none");
        CHECK.stays(THREE, "judge(0, 0)", -1);
        CHECK.stays(FULL, "judge(1, 0)", -1);
        CHECK.stays(FULL, "judge(1, 5)", -1);
        CHECK.stays(FULL, "judge(2, 0)", -1);
        // Behind what it tells no HOUR is otherwise.
        for (int n = 0; n < 12; n++) {
            AloneTogether x = of(2, "hour = " + n);
            x.sheet(0, 0, n);
            CHECK.due(x, "judge(0, 0)", -1);
            x.sheet(0, 0, n + 1);
            CHECK.due(x, "judge(0, 0)", n);
        }
    }

    private static void judgeNumbers() {
        CHECK.of("Promise 25: A SHEET tells COMPANY (of bytes, shorts, ints)");
        for (int sort = 0; sort < 3; sort++) {
            AloneTogether x = new AloneTogether();
            x.man(39);
            x.man(0);
            Check.law(x, "99", "1", "1");
            Check.row(x, 0, sort, 108);
            CHECK.due(x, "judge(0, 0)", -1);
            CHECK.due(x, "judge(0, 1)", 0);
            int[] beside = {107, 109, -108, 256 + 108, 65536 + 108};
            int[] due = {0, 0, 0, sort > 0 ? 0 : -1, sort > 1 ? 0 : -1};
            for (int i = 0; i < 5; i++) {
                x.cell(0, 0, beside[i]);
                CHECK.due("judge of " + beside[i] + ", sort " + sort, x.judge(0, 0), due[i]);
            }
        }
    }

    private static void kinds() {
        CHECK.of("Promise 26: KINDS (sort 0; bits 0 .. 5), MORE (1; bits 0 .. 9); KINDS (2), MORE (3) of his MATE");
        for (int more = 0; more < 10; more++) {
            AloneTogether x = told(of(2, "more"), more);
            CHECK.due(x, "kinds(0, 0, 1)", 1 << more);
            CHECK.due(x, "kinds(0, 0, 3)", more == 0 ? 1023 : 0);
            CHECK.due(x, "kinds(0, 0, 0)", more == 0 ? 63 : 0);
        }
        int[] hisDoing = {5, 0, 0, 3, 3, 5}, sign = {5, 1, 0, 0, 3, 0};
        int[] due = {0b010111, 0b001010, 0b110101, 0b001000, 0b110101, 0b101000};
        for (int i = 0; i < 6; i++) {
            AloneTogether x = told(of(2, "his"), sign[i]);
            x.put(1, 0, hisDoing[i]);
            CHECK.due("KINDS of whom " + hisDoing[i] + " SIGNS " + sign[i], x.kinds(0, 0, 2), due[i]);
        }
        AloneTogether all = told(of(2, "0"));
        int[] bits = {63, 1023, 63, 1023};
        AloneTogether no = told(of(2, "1"), 100);
        for (int sort = 0; sort < 4; sort++) {
            CHECK.due(all, "kinds(0, 0, " + sort + ")", bits[sort]);
            CHECK.due(no, "kinds(0, 0, " + sort + ")", 0);
        }
        CHECK.stays(THREE, "kinds(0, 0, 0)", 0b100011);
        CHECK.stays(THREE, "kinds(0, 0, 1)", 1023);
        CHECK.stays(THREE, "kinds(0, 0, 2)", 0b001000);
        CHECK.stays(THREE, "kinds(0, 0, 3)", 1023);
    }

    private static void kindsSort() {
        CHECK.of("Promise 26: -7: sort");
        for (String sort : new String[] {"-1", "4", "MIN", "MAX"}) CHECK.stays(THREE, "kinds(0, 0, " + sort + ")", -7);
    }

    private static void kindsNoMate() {
        CHECK.of("Promise 26: -6: he has no MATE (sort 2, 3)");
        int[] due = {0, 0, -6, -6};
        for (int sort = 0; sort < 4; sort++) {
            CHECK.stays(THREE, "kinds(0, 2, " + sort + ")", due[sort]);
            CHECK.due(told(of(1, "1"), 0), "kinds(0, 0, " + sort + ")", new int[] {63, 1023, -6, -6}[sort]);
        }
    }

    private static void did() {
        CHECK.of("Promise 27: whoseHour: the HOUR; 100 more: of the MATE. DOINGS (bits) in that HOUR");
        for (int doing = 0; doing < 6; doing++) {
            AloneTogether x = told(of(2, "mine"), 0, 0, 0, 0, 0, 0, 0, 0, 0, 0, 0, doing);
            CHECK.due(x, "did(0, 0, 11)", 1 << doing);
            CHECK.due(x, "did(0, 0, 0)", doing == 0 ? 1 : 0);
            CHECK.due(x, "did(0, 0, 111)", doing == 0 ? 63 : 0);
            AloneTogether y = told(of(2, "his"), doing);
            CHECK.due(y, "did(0, 0, 100)", 1 << doing);
            CHECK.due(y, "did(0, 0, 0)", doing == 0 ? 63 : 0);
            CHECK.due(y, "did(0, 0, 1)", doing == 0 ? 63 : 0);
            CHECK.due(y, "did(0, 0, 101)", doing == 0 ? 63 : 0);
        }
        CHECK.stays(THREE, "did(0, 0, 0)", 2);
        CHECK.stays(THREE, "did(0, 0, 11)", 1);
        CHECK.stays(THREE, "did(0, 0, 100)", 1);
        CHECK.stays(THREE, "did(0, 0, 111)", 56);
    }

    private static void didWhoseHour() {
        CHECK.of("Promise 27: -7: whoseHour");
        for (String hour : new String[] {"-1", "12", "99", "112", "200", "MIN", "MAX"}) {
            CHECK.stays(THREE, "did(0, 0, " + hour + ")", -7);
        }
    }

    private static void didNoMate() {
        CHECK.of("Promise 27: -6: it is of the MATE, and he has none");
        CHECK.stays(THREE, "did(0, 2, 100)", -6);
        CHECK.stays(THREE, "did(0, 2, 111)", -6);
        CHECK.stays(THREE, "did(0, 2, 11)", 0);
        AloneTogether x = told(of(1, "1"), 0);
        CHECK.due(x, "did(0, 0, 0)", 63);
        CHECK.due(x, "did(0, 0, 11)", 63);
    }

    private static void laws() {
        CHECK.of("Promise 28: TEXTS (bits), were they THE LAW, by which that would be -1");
        AloneTogether x = new AloneTogether();
        x.man(0);
        x.man(0);
        for (int t = 1; t < 6; t++) {
            told(x, 0);
            CHECK.due(x, "laws(0, 0)", 1);
            Check.text(x, "counts " + t + ";pays 1;sees 1;");
            told(x, t);
            CHECK.due(x, "laws(0, 0)", 1 << t);
        }
        told(x);
        CHECK.due(x, "laws(0, 0)", 63);
        told(x, 6);
        CHECK.due(x, "laws(0, 0)", 0);
        // All else is as it is, WATCHED too, whatever was asked ahead.
        AloneTogether y = told(of(2, "1 + watched"), 1, 2);
        y.watches(2);
        CHECK.due(y, "laws(0, 0)", 2);
        y.guard(1, 0);
        CHECK.due(y, "laws(0, 0)", 2);
        y.watches(3);
        CHECK.due(y, "laws(0, 0)", 0);
        CHECK.stays(THREE, "laws(0, 0)", 2);
        CHECK.stays(FULL, "laws(1, 5)", 63);
        CHECK.stays(FULL, "laws(2, 0)", 32);
    }

    private static void whose() {
        CHECK.of("Promise 29: MEN (bits) of whom that would be -1");
        for (int m = 0; m < 6; m++) {
            AloneTogether x = of(6, "mine = 5");
            x.put(m, 11, 5);
            told(x, 0, 0, 0, 0, 0, 0, 0, 0, 0, 0, 0, 1);
            CHECK.due(x, "whose(0)", 1 << m);
            x.cell(0, 11, 0);
            CHECK.due(x, "whose(0)", 63 - (1 << m));
        }
        CHECK.stays(THREE, "whose(0)", 1);
        CHECK.stays(FULL, "whose(1)", 63);
    }

    private static void whoseOfNone() {
        CHECK.of("Promise 29: nobody of whom that would be -1");
        CHECK.due(told(new AloneTogether()), "whose(0)", 0);
        CHECK.due(told(of(6, "1"), 0), "whose(0)", 0);
        CHECK.due(told(of(5, "1"), 0), "whose(0)", 16);
    }

    private static void film() {
        CHECK.of("Promise 30: COMPANY of the first n (0 .. 12) HOURS (shorts): n. -7: n");
        for (int n = 0; n <= 12; n++) {
            AloneTogether x = of(2, "hour + 1");
            x.sheet(0, 2, 40);
            CHECK.due(x, "film(0, 0, " + n + ")", n);
            CHECK.due(x, "cell(0, " + n + ", 1)", -12);
            CHECK.due(x, "judge(0, 0)", -1);
            CHECK.due(x, "menBy(0, 1, 0, 0)", 0);
            for (int h = 0; h < n; h++) {
                CHECK.due(x, "copy(0, " + h + ", 0, 0, 1)", 1);
                x.image();
                CHECK.due(x, "menBy(0, 1, 0, 1)", 1);
                CHECK.due(x, "told(2, 14)", (h + 1) % 10);
                x.back();
            }
        }
        for (String n : new String[] {"-1", "13", "MIN", "MAX"}) CHECK.stays(THREE, "film(0, 0, " + n + ")", -7);
        // COMPANY may be above what a byte of 0 .. 99 holds.
        AloneTogether most = new AloneTogether();
        most.man(39);
        most.man(0);
        Check.law(most, "99", "1", "1");
        most.film(0, 0, 12);
        CHECK.due(most, "kinds(0, 0, 1)", 512);
        CHECK.due(most, "kinds(0, 0, 0)", 8);
    }

    private static void filmTruly() {
        CHECK.of("Promise 30: A SHEET truly becomes");
        CHECK.changesOnly(THREE, "film(0, 0, 11)", 11, "SHEET 0.*");
        CHECK.changesOnly(THREE, "film(1, 0, 0)", 0, "SHEET 1.*");
        CHECK.changesOnly(THREE, "film(2, 2, 12)", 12, "SHEET 2.*");
        CHECK.changesOnly(THREE, "film(3, 0, 5)", 5, "SHEET 3.*");
        AloneTogether x = Houses.three();
        CHECK.due(x, "film(3, 2, 12)", 12);
        CHECK.due(x, "judge(3, 2)", -1);
        x.film(3, 0, 0);
        CHECK.due(x, "judge(3, 0)", -1);
        CHECK.due(x, "cell(3, 0, 0)", -12);
        // The film stays as it was made.
        x.film(3, 0, 12);
        x.put(0, 0, 5);
        CHECK.due(x, "judge(3, 0)", 0);
    }

    private static void drawn() {
        CHECK.of("Promise 31: BAD: SEED, often");
        for (String seed : new String[] {"-1", "100000", "MIN", "MAX"}) CHECK.stays(THREE, "drawn(" + seed + ", 5)", -2);
        for (String often : new String[] {"-1", "11", "MIN", "MAX"}) CHECK.stays(THREE, "drawn(5, " + often + ")", -2);
        CHECK.of("Promise 31: COUGHS by a SEED: ALL");
        for (int seed = 0; seed <= 99999; seed += 99999) {
            CHECK.stays(THREE, "drawn(" + seed + ", 0)", Houses.three().all());
            CHECK.stays(EMPTY, "drawn(" + seed + ", 10)", 0);
            AloneTogether all = Houses.three();
            for (int m = 0; m < 3; m++) Check.doings(all, m, 4, 4, 4, 4, 4, 4, 4, 4, 4, 4, 4, 4);
            CHECK.stays(THREE, "drawn(" + seed + ", 10)", all.all());
        }
    }

    private static void odds() {
        CHECK.of("Promise 32: so many (1 .. 40) seeds; days (0 .. 9999); part 0, 1. NO: none such");
        String[][] wrong = {{"odds(%d, 1, 5, 5, 0)", "-1", "100000", "MIN", "MAX"}, {"odds(5, %d, 5, 5, 0)", "0", "41", "-1", "MIN", "MAX"},
            {"odds(5, 1, %d, 5, 0)", "-1", "11", "MIN", "MAX"}, {"odds(5, 1, 5, %d, 0)", "-1", "10000", "MIN", "MAX"},
            {"odds(5, 1, 5, 5, %d)", "-1", "2", "MIN", "MAX"}};
        for (String[] calls : wrong) {
            for (int i = 1; i < calls.length; i++) CHECK.stays(THREE, calls[0].replace("%d", calls[i]), AloneTogether.NO);
        }
        AloneTogether x = of(2, "mine = 4");
        String[] taken = {"odds(0, 1, 10, 24, %p)", "odds(99999, 1, 10, 24, %p)", "odds(5, 40, 10, 24, %p)", "odds(5, 1, 0, 0, %p)",
            "odds(5, 1, 10, 9999, %p)"};
        for (String call : taken) {
            CHECK.due(x, call.replace("%p", "0"), 1);
            CHECK.due(x, call.replace("%p", "1"), 1);
        }
        CHECK.stays(THREE, "odds(99999, 40, 10, 9999, 0)", 1);
        CHECK.stays(EMPTY, "odds(0, 40, 10, 0, 1)", 1);
    }

    /** How many of the seeds have so few DAYS, each drawn by itself: a SEED above 99999 by its first LOT. */
    private static int few(AloneTogether x, int seed, int seeds, int often, int days) {
        int few = 0;
        for (int i = 0; i < seeds; i++) {
            if (x.drawn(seed + i, often) <= days) few++;
        }
        return few;
    }

    private static void oddsPastTheSeeds() {
        CHECK.of("Promise 32: SEED and each 1 more (they may pass 99999)");
        AloneTogether x = of(2, "mine = 4");
        for (int days = 8; days < 16; days++) {
            int before = few(x, 99960, 40, 5, days);
            CHECK.due("odds up to 99999", 40 * x.odds(99960, 40, 5, days, 0), before * x.odds(99960, 40, 5, days, 1));
        }
        // Coughs by SEEDS 99999 .. 100038, told by a house of its own.
        House house = new House();
        house.men = 2;
        house.watched = 4095;
        house.place[1] = 1;
        house.laws.add(new House.Law("", n -> n[0] == 4 ? 1 : 0, n -> 1, n -> 0));
        house.law = 1;
        for (int days = 6; days < 16; days++) {
            int few = 0;
            for (int seed = 99999; seed < 99999 + 40; seed++) {
                House other = house.copy();
                other.coughs(seed, 5);
                if (other.all() <= days) few++;
            }
            CHECK.due("odds past 99999", 40 * x.odds(99999, 40, 5, days, 0), few * x.odds(99999, 40, 5, days, 1));
        }
    }

    private static void oddsDaysOrLess() {
        CHECK.of("Promise 32: By how many of so many seeds ALL is days or less");
        AloneTogether x = of(2, "mine = 4");
        for (int seed = 0; seed < 100; seed++) {
            int days = x.drawn(seed, 5);
            CHECK.due(x, "odds(" + seed + ", 1, 5, " + days + ", 0)", 1);
            CHECK.due(x, "odds(" + seed + ", 1, 5, " + (days - 1) + ", 0)", 0);
            CHECK.due(x, "odds(" + seed + ", 1, 5, " + (days - 1) + ", 1)", 1);
        }
    }

    private static void oddsLowestTerms() {
        CHECK.of("Promise 32: part 0 above, 1 below the line, in lowest terms");
        for (int seeds = 1; seeds <= 40; seeds++) {
            AloneTogether x = of(2, "mine = 4");
            for (int days = 10; days < 14; days++) {
                int few = few(x, 7, seeds, 5, days), by = seeds;
                while (few % by != 0 || seeds % by != 0) by--;
                CHECK.due(x, "odds(7, " + seeds + ", 5, " + days + ", 0)", few / by);
                CHECK.due(x, "odds(7, " + seeds + ", 5, " + days + ", 1)", seeds / by);
            }
        }
        // None of them, and each of them.
        AloneTogether x = of(2, "mine = 4");
        CHECK.due(x, "odds(7, 40, 10, 23, 0)", 0);
        CHECK.due(x, "odds(7, 40, 10, 23, 1)", 1);
        CHECK.due(x, "odds(7, 40, 10, 24, 0)", 1);
        CHECK.due(x, "odds(7, 40, 10, 24, 1)", 1);
    }

    private static void image() {
        CHECK.of("Promise 33: AN IMAGE is kept: how many MEN");
        CHECK.changesOnly(EMPTY, "image()", 0, "IMAGE.*");
        CHECK.changesOnly(THREE, "image()", 3, "IMAGE.*");
        CHECK.due(Houses.full(), "image()", 6);
        // Only the last one is kept.
        AloneTogether x = Houses.three();
        x.image();
        x.watches(7);
        x.image();
        x.watches(8);
        CHECK.due(x, "back()", 3);
        CHECK.due(x, "count(1)", 7);
    }

    private static void backState() {
        CHECK.of("Promise 34: STATE: there is none");
        CHECK.stays(EMPTY, "back()", -3);
        AloneTogether x = new AloneTogether();
        x.man(0);
        CHECK.due(x, "back()", -3);
        CHECK.due(x, "count(0)", 1);
        CHECK.due(x, "image()", 1);
        CHECK.due(x, "back()", 1);
        CHECK.due(x, "back()", 1);
    }

    private static void back() {
        CHECK.of("Promise 34: All that it keeps is as in THE IMAGE: how many there are");
        CHECK.changesOnly(THREE, "back()", 2, "(count\\([013]\\)|taken|told|hour|asks|TEXT|TAPE).*");
        CHECK.changesOnly(FULL, "back()", 5, "(count\\([013]\\)|taken|told|hour|asks|TEXT).*");
        AloneTogether x = Houses.three();
        CHECK.due(x, "back()", 2);
        int[] due = {0, 0, 0, 5, 0, 0, 0, 0, 0, 0, 0, 0, 0, 0, 3, 0, 1};
        for (int what = 0; what < 17; what++) CHECK.due(x, "told(0, " + what + ")", due[what]);
        CHECK.due(x, "told(1, 12)", 9000);
        CHECK.due(x, "count(1)", 5);
        CHECK.due(x, "count(3)", 0);
        CHECK.due(x, "hour(0, 2, 0)", 1);
        // THE IMAGE stays, and what is otherwise since doesn't come into it.
        x.put(0, 3, 1);
        x.watches(9);
        x.force(1);
        x.move(0, 1);
        CHECK.due(x, "back()", 2);
        for (int what = 0; what < 17; what++) CHECK.due(x, "told(0, " + what + ")", due[what]);
        CHECK.due(x, "count(1)", 5);
        CHECK.due(x, "count(3)", 0);
    }

    private static void backNone() {
        CHECK.of("Promise 34: MEN that came since are none");
        for (int men = 0; men <= 6; men++) {
            AloneTogether x = new AloneTogether();
            for (int m = 0; m < men; m++) x.man(0);
            CHECK.due(x, "image()", men);
            for (int m = men; m < 6; m++) CHECK.due(x, "man(59)", m);
            x.move(0, 5);
            CHECK.due(x, "back()", men);
            CHECK.due(x, "count(0)", men);
            for (int m = 0; m < 6; m++) CHECK.due(x, "told(" + m + ", 15)", m < men ? m : -5);
            for (int m = men; m < 6; m++) CHECK.due(x, "man(0)", m);
            CHECK.due(x, "man(0)", -4);
        }
    }
}
