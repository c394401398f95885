import java.util.function.Supplier;

/** The edges that promises 12 to 24 name. What is asked, or refused, changes nothing: such calls are made in houses told whole. */
public final class DaysEdgesTest {
    private static final Check CHECK = new Check("DaysEdgesTest");
    private static final Supplier<AloneTogether> EMPTY = Houses::empty, THREE = Houses::three, FULL = Houses::full;
    private static final String[] NOBODY = {"-1", "3", "6", "MIN", "MAX"};
    private static final String[] NEITHER = {"-1", "2", "MIN", "MAX"};

    public static void main(String[] args) {
        hour();
        hourWithoutMate();
        day();
        dayOfNone();
        all();
        liveAtMost();
        liveToldAhead();
        better();
        betterOfLikeOnes();
        betterNone();
        swap();
        swapOfLikeOnes();
        swapNone();
        beds();
        bedsOfLikeOnes();
        bedsOfNone();
        guard();
        guardNoOthers();
        guardOfLikeOnes();
        codes();
        codesNone();
        code();
        codeLeast();
        codeNone();
        knows();
        knowsNoMate();
        still();
        stillCanNotBe();
        unseen();
        unseenLowestTerms();
        unseenOfHours();
        CHECK.end();
    }

    /** MEN of KIND 0, all HOURS WATCHED, under such a law. */
    private static AloneTogether of(int men, String counts, String pays, String sees) {
        AloneTogether x = new AloneTogether();
        for (int m = 0; m < men; m++) x.man(0);
        x.watches(4095);
        Check.law(x, counts, pays, sees);
        return x;
    }

    /** MEN of KIND 0 under TEXT 0, of whom the two of a pair are loud together, each in an HOUR of its own. */
    private static AloneTogether pairs(int men, int... loud) {
        AloneTogether x = new AloneTogether();
        for (int m = 0; m < men; m++) x.man(0);
        x.watches(4095);
        for (int h = 0; h < loud.length; h++) {
            x.put(loud[h] / 10, h, 1);
            x.put(loud[h] % 10, h, 1);
        }
        return x;
    }

    private static void refused(String call, String[] wrong, long due) {
        for (String number : wrong) CHECK.stays(THREE, call.replace("%d", number), due);
    }

    /** No MAN of such a number, in houses of three, of none, of six. */
    private static void nobody(String call, long due) {
        refused(call, NOBODY, due);
        CHECK.stays(EMPTY, call.replace("%d", "0"), due);
        CHECK.stays(FULL, call.replace("%d", "6"), due);
    }

    private static void hour() {
        CHECK.of("Promise 12: the MATE's DOING SIGNS (what 0), COMPANY (1), DAYS (2). -5: no such MAN; -7: HOUR, what");
        int[][] due = {{1, 2, 5}, {0, 0, 0}};
        for (int what = 0; what < 3; what++) {
            CHECK.stays(THREE, "hour(0, 0, " + what + ")", due[0][what]);
            CHECK.stays(THREE, "hour(0, 11, " + what + ")", due[1][what]);
        }
        refused("hour(0, 0, %d)", new String[] {"-1", "3", "MIN", "MAX"}, -7);
        refused("hour(0, %d, 0)", new String[] {"-1", "12", "MIN", "MAX"}, -7);
        nobody("hour(%d, 0, 0)", -5);
    }

    private static void hourWithoutMate() {
        CHECK.of("Promise 12: (what 0; 0: he has none)");
        for (int what = 0; what < 3; what++) CHECK.stays(THREE, "hour(2, 0, " + what + ")", 0);
    }

    private static void day() {
        CHECK.of("Promise 13: DAYS (what 0), HOURS of COMPANY (1), the first (2), the most (3). -5: no such MAN; -7: what");
        AloneTogether last = of(2, "99 * (hour = 11)", "99", "0"), every = of(2, "hour + 1", "1", "0");
        int[] ofLast = {99, 1, 11, 99}, ofEvery = {12, 12, 0, 12};
        for (int what = 0; what < 4; what++) {
            CHECK.due(last, "day(0, " + what + ")", ofLast[what]);
            CHECK.due(every, "day(1, " + what + ")", ofEvery[what]);
        }
        AloneTogether most = of(2, "99 - hour", "1", "0");
        CHECK.due(most, "day(0, 3)", 99);
        // COMPANY counts in any HOUR, DAYS only in one that is WATCHED.
        last.watches(2047);
        int[] unwatched = {0, 1, 11, 99};
        for (int what = 0; what < 4; what++) CHECK.due(last, "day(0, " + what + ")", unwatched[what]);
        // A MUTE has COMPANY in each HOUR, and in none beside them.
        AloneTogether mute = new AloneTogether();
        mute.man(39);
        mute.man(0);
        int[] ofMute = {0, 12, 0, 9};
        for (int what = 0; what < 4; what++) CHECK.due(mute, "day(0, " + what + ")", ofMute[what]);
        refused("day(0, %d)", new String[] {"-1", "4", "MIN", "MAX"}, -7);
        nobody("day(%d, 0)", -5);
    }

    private static void dayOfNone() {
        CHECK.of("Promise 13: the first of them (2; -1: none)");
        AloneTogether x = of(3, "0", "99", "0");
        int[] due = {0, 0, -1, 0};
        for (int what = 0; what < 4; what++) {
            CHECK.due(x, "day(0, " + what + ")", due[what]);
            CHECK.stays(THREE, "day(2, " + what + ")", due[what]);
        }
    }

    private static void all() {
        CHECK.of("Promise 14: ALL");
        CHECK.stays(EMPTY, "all()", 0);
        CHECK.due(of(1, "99", "99", "0"), "all()", 0);
        CHECK.due(of(3, "99", "99", "0"), "all()", 2 * 12 * 99);
        CHECK.due(of(6, "99", "99", "0"), "all()", 6 * 12 * 99);
    }

    private static void liveAtMost() {
        CHECK.of("Promise 15: TERM of each is DAYS of his day more (9999 at most): ALL");
        int[] terms = {0, 9986, 9987, 9988, 9998, 9999}, then = {12, 9998, 9999, 9999, 9999, 9999};
        for (int i = 0; i < 6; i++) {
            AloneTogether x = of(2, "1", "1", "0");
            x.put(0, 12, terms[i]);
            CHECK.due(x, "live()", 24);
            CHECK.due(x, "told(0, 12)", then[i]);
            CHECK.due(x, "told(1, 12)", 12);
        }
        CHECK.stays(EMPTY, "live()", 0);
        AloneTogether all = of(6, "1", "99", "0");
        CHECK.due(all, "live()", 7128);
        for (int m = 0; m < 6; m++) CHECK.due(all, "told(" + m + ", 12)", 1188);
        CHECK.due(all, "live()", 7128);
        for (int i = 0; i < 6; i++) all.live();
        CHECK.due(all, "told(5, 12)", 8 * 1188);
        CHECK.due(all, "live()", 7128);
        CHECK.due(all, "told(5, 12)", 9999);
    }

    private static void liveToldAhead() {
        CHECK.of("Promise 15: A day, truly: (told of all ahead)");
        AloneTogether x = of(2, "1", "1 + (term = 0)", "0");
        CHECK.due(x, "live()", 48);
        CHECK.due(x, "live()", 24);
        for (int m = 0; m < 2; m++) CHECK.due(x, "told(" + m + ", 12)", 36);
        CHECK.changesOnly(FULL, "live()", Houses.full().all(), "told\\([0-4], 12\\).*");
        CHECK.due(Houses.full().all() + " is above", Houses.full().all() > 0 ? 1 : 0, 1);
    }

    private static void better() {
        CHECK.of("Promise 16: 10 times the HOUR, and the DOING (what 0), that (1). -5: no such MAN; -7: what");
        AloneTogether last = of(2, "1", "9 - (mine = 5) * (hour = 11)", "0");
        AloneTogether first = of(2, "1", "9 - (mine = 0) * (hour = 0)", "0");
        first.put(0, 0, 1);
        first.put(1, 0, 1);
        for (int m = 0; m < 2; m++) {
            CHECK.due(last, "better(" + m + ", 0)", 115);
            CHECK.due(last, "better(" + m + ", 1)", 24 * 9 - 1);
            CHECK.due(first, "better(" + m + ", 0)", 0);
            CHECK.due(first, "better(" + m + ", 1)", 24 * 9 - 1);
        }
        // The more he does, the better, up to the last DOING.
        AloneTogether most = of(2, "1", "9 - mine", "0");
        CHECK.due(most, "better(0, 0)", 5);
        CHECK.due(most, "better(0, 1)", 24 * 9 - 5);
        // ALL is least, not his own DAYS.
        AloneTogether mates = of(2, "his", "his", "0");
        Check.doings(mates, 0, 0, 3);
        CHECK.due(mates, "better(0, 0)", 10);
        CHECK.due(mates, "better(0, 1)", 0);
        CHECK.due(mates, "better(1, 0)", -1);
        CHECK.due(mates, "better(1, 1)", 3);
        refused("better(0, %d)", NEITHER, -7);
        nobody("better(%d, 0)", -5);
    }

    private static void betterOfLikeOnes() {
        CHECK.of("Promise 16: of like ones the first");
        AloneTogether x = of(2, "1", "9 - (mine = 2) - (mine = 3)", "0");
        CHECK.due(x, "better(0, 0)", 2);
        x.put(0, 0, 3);
        CHECK.due(x, "better(0, 0)", 12);
        for (int h = 1; h < 11; h++) x.put(0, h, 2);
        CHECK.due(x, "better(0, 0)", 112);
        CHECK.due(x, "better(0, 1)", 24 * 9 - 12);
    }

    private static void betterNone() {
        CHECK.of("Promise 16: if less than now (what 0; -1: none), that (1; as now)");
        AloneTogether like = of(2, "1", "9", "0");
        CHECK.due(like, "better(0, 0)", -1);
        CHECK.due(like, "better(0, 1)", 216);
        AloneTogether worse = of(2, "1", "1 + mine", "0");
        CHECK.due(worse, "better(0, 0)", -1);
        CHECK.due(worse, "better(0, 1)", 24);
        CHECK.stays(THREE, "better(2, 0)", -1);
        CHECK.stays(THREE, "better(2, 1)", Houses.three().all());
    }

    private static void swap() {
        CHECK.of("Promise 17: 10 times the one, and the other (the lesser first) (what 0), that (1). BAD");
        // Who is loud with whom leaves one way only to part 2 and 3.
        AloneTogether last = pairs(5, 23, 12, 2, 34);
        CHECK.due(last, "swap(0)", 34);
        CHECK.due(last, "swap(1)", 0);
        AloneTogether turned = pairs(5, 12, 23, 24, 1);
        turned.move(0, 4);
        turned.move(1, 3);
        CHECK.due(turned, "swap(0)", 1);
        CHECK.due(turned, "swap(1)", 0);
        AloneTogether none = pairs(5, 23, 12, 2, 34, 24);
        CHECK.due(none, "swap(0)", -1);
        CHECK.due(none, "swap(1)", 18);
        refused("swap(%d)", NEITHER, -2);
        for (int what = 2; what < 4; what++) CHECK.stays(EMPTY, "swap(" + what + ")", -2);
    }

    private static void swapOfLikeOnes() {
        CHECK.of("Promise 17: of like ones the first");
        AloneTogether x = pairs(6, 1);
        CHECK.due(x, "swap(0)", 2);
        CHECK.due(x, "swap(1)", 0);
        AloneTogether y = pairs(6, 45);
        CHECK.due(y, "swap(0)", 4);
    }

    private static void swapNone() {
        CHECK.of("Promise 17: if less than now (what 0; -1: none), that (1; as now)");
        for (int men = 0; men < 3; men++) {
            AloneTogether x = of(men, "1", "1", "0");
            CHECK.due(x, "swap(0)", -1);
            CHECK.due(x, "swap(1)", men == 2 ? 24 : 0);
        }
        AloneTogether like = of(6, "1", "1", "0");
        CHECK.due(like, "swap(0)", -1);
        CHECK.due(like, "swap(1)", 72);
        AloneTogether worse = pairs(4, 2, 3, 12, 13);
        CHECK.due(worse, "swap(0)", -1);
        CHECK.due(worse, "swap(1)", 0);
    }

    private static void beds() {
        CHECK.of("Promise 18: digits, 1 more than each, PLACE 0 highest (what 0), that (1). BAD");
        String[] due = {"1", "12", "123", "1234", "12345", "123456"};
        for (int men = 1; men <= 6; men++) CHECK.due(pairs(men), "beds(0)", Integer.parseInt(due[men - 1]));
        AloneTogether x = pairs(6, 1, 2, 3, 4, 12, 13, 15, 24, 25, 34, 35, 45);
        CHECK.due(x, "beds(0)", 162534);
        CHECK.due(x, "beds(1)", 0);
        refused("beds(%d)", NEITHER, -2);
        CHECK.stays(EMPTY, "beds(2)", -2);
    }

    private static void bedsOfLikeOnes() {
        CHECK.of("Promise 18: of like ones the first (the MAN of PLACE 0 the least, then of PLACE 1, ..)");
        AloneTogether x = pairs(6);
        for (int m = 0; m < 3; m++) x.move(m, 5 - m);
        CHECK.due(x, "beds(0)", 123456);
        AloneTogether y = pairs(3, 1);
        CHECK.due(y, "beds(0)", 132);
        y = pairs(3, 1, 2);
        CHECK.due(y, "beds(0)", 231);
        y = pairs(3, 1, 2, 12);
        CHECK.due(y, "beds(0)", 123);
        CHECK.due(y, "beds(1)", 18);
        // Of ways by which as many pairs are loud together, the first, too.
        AloneTogether like = of(6, "1", "99", "0");
        CHECK.due(like, "beds(0)", 123456);
        CHECK.due(like, "beds(1)", 7128);
    }

    private static void bedsOfNone() {
        CHECK.of("Promise 18: (what 0; 0: no MEN)");
        CHECK.stays(EMPTY, "beds(0)", 0);
        CHECK.stays(EMPTY, "beds(1)", 0);
    }

    private static void guard() {
        CHECK.of("Promise 19: Of all sets of n (0 .. 3) HOURS that by which ALL would be most (what 0), that (1). BAD");
        AloneTogether late = of(2, "1", "1 + hour", "0"), early = of(2, "1", "12 - hour", "0");
        int[] lateSets = {0, 2048, 3072, 3584}, earlySets = {0, 1, 3, 7}, most = {0, 24, 46, 66};
        for (int n = 0; n <= 3; n++) {
            CHECK.due(late, "guard(" + n + ", 0)", lateSets[n]);
            CHECK.due(late, "guard(" + n + ", 1)", most[n]);
            CHECK.due(early, "guard(" + n + ", 0)", earlySets[n]);
            CHECK.due(early, "guard(" + n + ", 1)", most[n]);
        }
        AloneTogether full = of(6, "1", "99", "0");
        CHECK.due(full, "guard(3, 1)", 3 * 6 * 99);
        refused("guard(%d, 0)", new String[] {"-1", "4", "MIN", "MAX"}, -2);
        refused("guard(0, %d)", NEITHER, -2);
        CHECK.stays(EMPTY, "guard(4, 0)", -2);
    }

    private static void guardNoOthers() {
        CHECK.of("Promise 19: were they WATCHED, no others");
        AloneTogether x = of(2, "1", "1 + 3 * watched + hour", "0");
        for (int watched : new int[] {0, 1, 4094, 4095}) {
            x.watches(watched);
            CHECK.due(x, "guard(0, 1)", 0);
            CHECK.due(x, "guard(1, 0)", 2048);
            CHECK.due(x, "guard(1, 1)", 30);
        }
        // By that law nobody has COMPANY in an HOUR that is WATCHED.
        AloneTogether shy = of(2, "1 - watched", "9", "0");
        shy.watches(0);
        CHECK.due(shy, "guard(3, 0)", 7);
        CHECK.due(shy, "guard(3, 1)", 0);
    }

    private static void guardOfLikeOnes() {
        CHECK.of("Promise 19: of like ones the least as bits");
        AloneTogether like = of(2, "1", "1", "0");
        int[] sets = {0, 1, 3, 7};
        for (int n = 0; n <= 3; n++) {
            CHECK.due(like, "guard(" + n + ", 0)", sets[n]);
            CHECK.stays(EMPTY, "guard(" + n + ", 0)", sets[n]);
            CHECK.stays(EMPTY, "guard(" + n + ", 1)", 0);
        }
        AloneTogether two = of(2, "1", "1 + (hour = 11) + (hour = 5)", "0");
        CHECK.due(two, "guard(1, 0)", 32);
        CHECK.due(two, "guard(3, 0)", 2048 + 32 + 1);
    }

    private static void codes() {
        CHECK.of("Promise 20: his DOINGS of the first n (0 .. 12) HOURS. NO: none such");
        AloneTogether x = of(3, "0", "1", "0");
        long ways = 1;
        for (int n = 0; n <= 12; n++) {
            CHECK.due(x, "codes(0, " + n + ")", ways);
            CHECK.due(x, "codes(2, " + n + ")", ways);
            ways *= 6;
        }
        CHECK.stays(THREE, "codes(2, 12)", 2176782336L);
        refused("codes(0, %d)", new String[] {"-1", "13", "MIN", "MAX"}, AloneTogether.NO);
        nobody("codes(%d, 0)", AloneTogether.NO);
    }

    private static void codesNone() {
        CHECK.of("Promise 20: In how many ways they can be such that they are QUIET, all else as it is");
        AloneTogether last = of(2, "hour = 11", "1", "0");
        CHECK.due(last, "codes(0, 11)", 362797056L);
        CHECK.due(last, "codes(0, 12)", 0);
        AloneTogether first = of(2, "hour = 0", "1", "0");
        CHECK.due(first, "codes(0, 0)", 1);
        CHECK.due(first, "codes(0, 1)", 0);
        CHECK.due(first, "codes(0, 12)", 0);
        // The MATE's COMPANY counts, too; and what he does stays.
        AloneTogether mates = of(2, "his = 5", "1", "0");
        CHECK.due(mates, "codes(0, 1)", 5);
        mates.put(1, 0, 5);
        CHECK.due(mates, "codes(0, 1)", 0);
        CHECK.due(mates, "codes(1, 1)", 5);
    }

    private static void code() {
        CHECK.of("Promise 21: Of these (n 0 .. 9). -5: no such MAN; -7: n");
        AloneTogether low = of(2, "0", "1", "0"), high = of(2, "mine < 5", "1", "0");
        Check.doings(high, 1, 5, 5, 5, 5, 5, 5, 5, 5, 5, 5, 5, 5);
        int[] ones = {0, 1, 11, 111, 1111, 11111, 111111, 1111111, 11111111, 111111111};
        for (int n = 0; n <= 9; n++) {
            CHECK.due(low, "code(0, " + n + ")", ones[n]);
            CHECK.due(high, "code(0, " + n + ")", 6 * ones[n]);
        }
        CHECK.stays(THREE, "code(2, 0)", 0);
        CHECK.stays(THREE, "code(2, 9)", 111111111);
        refused("code(2, %d)", new String[] {"-1", "10", "12", "MIN", "MAX"}, -7);
        nobody("code(%d, 0)", -5);
    }

    private static void codeLeast() {
        CHECK.of("Promise 21: the one with the least DOING in each HOUR: digits, 1 more than each, the first highest");
        AloneTogether x = of(2, "mine < hour", "1", "0");
        Check.doings(x, 1, 5, 5, 5, 5, 5, 5);
        CHECK.due(x, "code(0, 6)", 123456);
        CHECK.due(x, "code(0, 7)", -1);
        AloneTogether y = of(2, "(mine = 0) + (mine = 2)", "1", "0");
        Check.doings(y, 1, 1, 1, 1, 1, 1, 1, 1, 1, 1, 1, 1, 1);
        CHECK.due(y, "code(0, 9)", 222222222);
    }

    private static void codeNone() {
        CHECK.of("Promise 21: -1: there is none");
        AloneTogether last = of(2, "hour = 8", "1", "0");
        CHECK.due(last, "code(0, 8)", 11111111);
        CHECK.due(last, "code(0, 9)", -1);
        AloneTogether first = of(2, "hour = 0", "1", "0");
        CHECK.due(first, "code(0, 0)", 0);
        CHECK.due(first, "code(0, 1)", -1);
        CHECK.due(first, "code(0, 9)", -1);
        CHECK.due(of(2, "hour = 9", "1", "0"), "code(0, 9)", 111111111);
    }

    private static void knows() {
        CHECK.of("Promise 22: DOINGS (bits) of the MATE's in an HOUR. -5: no such MAN; -7: HOUR");
        int[][] due = {{1, 2, 4, 8, 16, 32}, {1, 2, 4, 8, 48, 48}, {7, 7, 7, 8, 16, 32}, {1, 2, 4, 56, 56, 56},
            {7, 7, 7, 8, 16, 32}, {33, 2, 4, 8, 16, 33}};
        for (int kind = 0; kind < 6; kind++) {
            AloneTogether x = new AloneTogether();
            x.man(0);
            x.man(10 * kind);
            for (int doing = 0; doing < 6; doing++) {
                for (int h = 0; h < 12; h += 11) {
                    x.put(1, h, doing);
                    CHECK.due(x, "knows(0, " + h + ")", due[kind][doing]);
                }
            }
        }
        CHECK.stays(THREE, "knows(0, 0)", 1);
        CHECK.stays(THREE, "knows(0, 11)", 56);
        refused("knows(0, %d)", new String[] {"-1", "12", "MIN", "MAX"}, -7);
        nobody("knows(%d, 0)", -5);
    }

    private static void knowsNoMate() {
        CHECK.of("Promise 22: (0: no MATE)");
        CHECK.stays(THREE, "knows(2, 0)", 0);
        CHECK.due(of(1, "1", "1", "1"), "knows(0, 11)", 0);
    }

    private static void still() {
        CHECK.of("Promise 23: In how few HOURS his DOING would have to be another one so that all are QUIET. -5: no such MAN");
        AloneTogether x = of(3, "mine = 0", "1", "0");
        for (int h = 0; h < 12; h++) x.put(1, h, 1);
        for (int h = 0; h <= 12; h++) {
            CHECK.due(x, "still(0)", 12 - h);
            CHECK.due(x, "codes(0, 12)", 244140625);
            x.put(0, h % 12, 1);
        }
        CHECK.due(of(2, "0", "1", "0"), "still(0)", 0);
        CHECK.stays(THREE, "still(2)", 0);
        nobody("still(%d)", -5);
    }

    private static void stillCanNotBe() {
        CHECK.of("Promise 23: -1: it can't be");
        CHECK.due(of(2, "hour = 11", "1", "0"), "still(0)", -1);
        CHECK.due(of(2, "hour = 0", "1", "0"), "still(0)", -1);
        CHECK.due(of(2, "1", "1", "0"), "still(1)", -1);
        CHECK.due(of(1, "1", "1", "0"), "still(0)", 0);
    }

    private static void unseenIs(AloneTogether x, int n, long above, long below) {
        CHECK.due(x, "unseen(0, " + n + ", 0)", above);
        CHECK.due(x, "unseen(0, " + n + ", 1)", below);
    }

    private static void unseen() {
        CHECK.of("Promise 24: Of HOURS 0 .. n less 1 (n 0 .. 8): part 0 above, 1 below the line. NO: none such");
        AloneTogether x = of(2, "1", "1", "50 * (hour = 0) + 50 * (hour = 7) + 50 * (hour = 8)");
        unseenIs(x, 0, 1, 1);
        unseenIs(x, 1, 1, 2);
        unseenIs(x, 7, 1, 2);
        unseenIs(x, 8, 1, 4);
        CHECK.stays(THREE, "unseen(2, 0, 0)", 1);
        CHECK.stays(THREE, "unseen(2, 8, 1)", 1);
        refused("unseen(0, %d, 0)", new String[] {"-1", "9", "MIN", "MAX"}, AloneTogether.NO);
        refused("unseen(0, 0, %d)", NEITHER, AloneTogether.NO);
        nobody("unseen(%d, 0, 0)", AloneTogether.NO);
    }

    private static void unseenLowestTerms() {
        CHECK.of("Promise 24: (100 less sees) by 100 of each, all multiplied: in lowest terms");
        unseenIs(of(2, "1", "1", "0"), 8, 1, 1);
        unseenIs(of(2, "1", "1", "100"), 1, 0, 1);
        unseenIs(of(2, "1", "1", "100"), 8, 0, 1);
        unseenIs(of(2, "1", "1", "99"), 8, 1, 10000000000000000L);
        unseenIs(of(2, "1", "1", "1"), 8, 9227446944279201L, 10000000000000000L);
        unseenIs(of(2, "1", "1", "98"), 8, 1, 39062500000000L);
        unseenIs(of(2, "1", "1", "20"), 2, 16, 25);
    }

    private static void unseenOfHours() {
        CHECK.of("Promise 24: those in which he has any COMPANY, WATCHED or not");
        AloneTogether x = of(2, "hour = 3", "0", "50");
        for (int watched : new int[] {0, 8, 4095}) {
            x.watches(watched);
            unseenIs(x, 3, 1, 1);
            unseenIs(x, 4, 1, 2);
            unseenIs(x, 8, 1, 2);
        }
        unseenIs(of(1, "1", "1", "50"), 8, 1, 1);
        unseenIs(of(2, "0", "1", "50"), 8, 1, 1);
        // What the text sees may hang on whether the HOUR is WATCHED.
        AloneTogether seen = of(2, "1", "1", "50 * watched");
        seen.watches(2);
        unseenIs(seen, 8, 1, 2);
    }
}
