import java.util.Arrays;
import java.util.function.Supplier;

/** The edges that promises 35 to 39 name. A refused call changes nothing, but where it is told: each is made in houses told whole. */
public final class HostEdgesTest {
    private static final Check CHECK = new Check("HostEdgesTest");
    private static final Supplier<AloneTogether> EMPTY = Houses::empty, THREE = Houses::three, FULL = Houses::full;
    private static final String[] NO_SHEET = {"-1", "4", "MIN", "MAX"};

    public static void main(String[] args) {
        sheet();
        sheetMissing();
        sheetSort();
        sheetSize();
        sheetBelowZero();
        cell();
        cellLowestBits();
        cellMissing();
        cellOutside();
        copy();
        copyAsTheyWere();
        copyMissing();
        copyUnlikeSorts();
        copyOutside();
        menBy();
        menByN();
        menByWrong();
        menByLeftOut();
        menByOutside();
        takenOfAKind();
        takenHours();
        takenKind();
        takenPlace();
        takenNobody();
        takenFor();
        CHECK.end();
    }

    private static AloneTogether row(int sort, int... numbers) {
        AloneTogether x = new AloneTogether();
        Check.row(x, 0, sort, numbers);
        return x;
    }

    /** The numbers of a SHEET, one by one, by the MEN that come by them; 0 .. 59, all others are -1. */
    private static void numbersAre(AloneTogether x, int s, int sort, int... due) {
        int m = x.image();
        for (int i = 0; i < due.length; i++) {
            int came = x.menBy(s, sort, i, 1);
            CHECK.due("number " + i, came == 1 ? 10 * x.told(m, 13) + x.told(m, 14) : -1, due[i]);
            x.back();
        }
        CHECK.due(x, "menBy(" + s + ", " + sort + ", " + due.length + ", 1)", -12);
    }

    private static void sheet() {
        CHECK.of("Promise 35: A SHEET becomes a row of n of a sort, all 0: 1. BAD: SHEET");
        for (int s = 0; s < 4; s++) CHECK.changesOnly(THREE, "sheet(" + s + ", 0, 5)", 1, "SHEET " + s + ".*");
        for (String s : NO_SHEET) CHECK.stays(THREE, "sheet(" + s + ", 0, 5)", -2);
        for (int sort = 0; sort < 3; sort++) {
            AloneTogether x = Houses.three();
            CHECK.due(x, "sheet(1, " + sort + ", 5)", 1);
            numbersAre(x, 1, sort, 0, 0, 0, 0, 0);
            Check.row(x, 1, sort, 5, 6, 7);
            CHECK.due(x, "sheet(1, " + sort + ", 3)", 1);
            numbersAre(x, 1, sort, 0, 0, 0);
            // What stood in a longer row doesn't come back.
            Check.row(x, 1, sort, 5, 6, 7);
            CHECK.due(x, "sheet(1, " + sort + ", 0)", 1);
            CHECK.due(x, "sheet(1, " + sort + ", 4)", 1);
            numbersAre(x, 1, sort, 0, 0, 0, 0);
            Check.row(x, 1, sort, 5, 6, 7);
            CHECK.due(x, "sheet(1, -1, 0)", 1);
            CHECK.due(x, "sheet(1, " + sort + ", 3)", 1);
            numbersAre(x, 1, sort, 0, 0, 0);
        }
        AloneTogether longest = new AloneTogether();
        int[] sevens = new int[40];
        Arrays.fill(sevens, 7);
        Check.row(longest, 2, 1, sevens);
        CHECK.due(longest, "sheet(2, 1, 40)", 1);
        numbersAre(longest, 2, 1, new int[40]);
    }

    private static void sheetMissing() {
        CHECK.of("Promise 35: or missing (sort -1: n does not matter)");
        for (String n : new String[] {"0", "-1", "40", "41", "MIN", "MAX"}) {
            CHECK.changesOnly(THREE, "sheet(0, -1, " + n + ")", 1, "SHEET 0.*");
            CHECK.stays(THREE, "sheet(3, -1, " + n + ")", 1);
            AloneTogether x = Houses.three();
            CHECK.due(x, "sheet(0, -1, " + n + ")", 1);
            CHECK.due(x, "cell(0, 0, 0)", -11);
            CHECK.due(x, "whose(0)", -11);
        }
    }

    private static void sheetSort() {
        CHECK.of("Promise 35: BAD: sort");
        for (String sort : new String[] {"-2", "3", "MIN", "MAX"}) CHECK.stays(THREE, "sheet(0, " + sort + ", 5)", -2);
        for (int sort = 0; sort < 3; sort++) {
            AloneTogether x = new AloneTogether();
            CHECK.due(x, "sheet(0, " + sort + ", 1)", 1);
            for (int asked = 0; asked < 3; asked++) CHECK.due(x, "menBy(0, " + asked + ", 0, 0)", asked == sort ? 0 : -13);
        }
    }

    private static void sheetSize() {
        CHECK.of("Promise 35: BAD: n above 40");
        for (String n : new String[] {"41", "42", "MAX"}) {
            for (int sort = 0; sort < 3; sort++) CHECK.stays(THREE, "sheet(0, " + sort + ", " + n + ")", -2);
        }
        for (int n : new int[] {0, 1, 39, 40}) {
            AloneTogether x = new AloneTogether();
            CHECK.due(x, "sheet(0, 2, " + n + ")", 1);
            CHECK.due(x, "cell(0, " + (n - 1) + ", 5)", n == 0 ? -12 : 1);
            CHECK.due(x, "cell(0, " + n + ", 5)", -12);
        }
    }

    private static void sheetBelowZero() {
        CHECK.of("Promise 35: -14 (a size below 0)");
        for (String n : new String[] {"-1", "-40", "MIN"}) {
            for (int sort = 0; sort < 3; sort++) CHECK.stays(THREE, "sheet(0, " + sort + ", " + n + ")", -14);
        }
        CHECK.due(Houses.three(), "sheet(0, 0, 0)", 1);
    }

    private static void cell() {
        CHECK.of("Promise 36: Number i of a SHEET becomes v: 1. BAD: SHEET");
        CHECK.changesOnly(THREE, "cell(2, 0, 7)", 1, "SHEET 2: number 0 .*");
        CHECK.changesOnly(THREE, "cell(2, 4, 7)", 1, "SHEET 2: number 4 .*");
        for (String s : NO_SHEET) CHECK.stays(THREE, "cell(" + s + ", 0, 7)", -2);
        AloneTogether x = row(2, 1, 2, 3);
        CHECK.due(x, "cell(0, 2, 59)", 1);
        CHECK.due(x, "cell(0, 0, 0)", 1);
        numbersAre(x, 0, 2, 0, 2, 59);
    }

    private static void cellLowestBits() {
        CHECK.of("Promise 36: (of bytes, shorts its lowest 8, 16 bits)");
        int[] v = {7, 256 + 7, 65536 + 7, 16777216 + 7, -256 + 7, -65536 + 7, Integer.MIN_VALUE + 7, -1, 128, 255, 256, 65535, 65536};
        int[] bytes = {7, 7, 7, 7, 7, 7, 7, -1, -1, -1, 0, -1, 0};
        int[] shorts = {7, -1, 7, 7, -1, 7, 7, -1, -1, -1, -1, -1, 0};
        int[] ints = {7, -1, -1, -1, -1, -1, -1, -1, -1, -1, -1, -1, -1};
        numbersAre(row(0, v), 0, 0, bytes);
        numbersAre(row(1, v), 0, 1, shorts);
        numbersAre(row(2, v), 0, 2, ints);
    }

    private static void cellMissing() {
        CHECK.of("Promise 36: -11");
        for (String i : new String[] {"0", "39"}) CHECK.stays(THREE, "cell(3, " + i + ", 7)", -11);
        CHECK.stays(EMPTY, "cell(0, 0, 0)", -11);
    }

    private static void cellOutside() {
        CHECK.of("Promise 36: -12");
        for (String i : new String[] {"-1", "5", "39", "40", "MIN", "MAX"}) CHECK.stays(THREE, "cell(2, " + i + ", 7)", -12);
        for (String i : new String[] {"-1", "40", "MIN", "MAX"}) CHECK.stays(FULL, "cell(0, " + i + ", 7)", -12);
        CHECK.stays(FULL, "cell(1, 0, 7)", -12);
        CHECK.changesOnly(FULL, "cell(0, 39, 7)", 1, "SHEET 0: number 39 .*");
    }

    private static void copy() {
        CHECK.of("Promise 37: n numbers of a SHEET, from i on, come to another one's place j: n. BAD: SHEETS");
        CHECK.changesOnly(THREE, "copy(0, 0, 1, 1, 12)", 12, "SHEET 1: number ([1-9]|1[0-2]) .*");
        CHECK.changesOnly(THREE, "copy(1, 12, 0, 11, 1)", 1, "SHEET 0: number 11 .*");
        CHECK.stays(THREE, "copy(0, 0, 1, 0, 0)", 0);
        CHECK.stays(THREE, "copy(2, 5, 2, 5, 0)", 0);
        CHECK.stays(FULL, "copy(0, 40, 0, 40, 0)", 0);
        CHECK.stays(FULL, "copy(1, 0, 1, 0, 0)", 0);
        for (String s : NO_SHEET) {
            CHECK.stays(THREE, "copy(" + s + ", 0, 0, 0, 1)", -2);
            CHECK.stays(THREE, "copy(0, 0, " + s + ", 0, 1)", -2);
        }
        AloneTogether x = row(0, 1, 2, 3, 4, 5);
        Check.row(x, 3, 0, 11, 12, 13, 14);
        CHECK.due(x, "copy(0, 2, 3, 1, 3)", 3);
        numbersAre(x, 3, 0, 11, 3, 4, 5);
        numbersAre(x, 0, 0, 1, 2, 3, 4, 5);
        CHECK.due(x, "copy(3, 0, 0, 0, 4)", 4);
        numbersAre(x, 0, 0, 11, 3, 4, 5, 5);
    }

    private static void copyAsTheyWere() {
        CHECK.of("Promise 37: (or its own) place j (as they were)");
        int[][] due = {{1, 1, 2, 3, 4}, {1, 2, 1, 2, 3}, {2, 3, 4, 5, 5}, {3, 4, 5, 4, 5}, {1, 2, 3, 4, 5}};
        String[] calls = {"copy(0, 0, 0, 1, 4)", "copy(0, 0, 0, 2, 3)", "copy(0, 1, 0, 0, 4)", "copy(0, 2, 0, 0, 3)", "copy(0, 0, 0, 0, 5)"};
        int[] n = {4, 3, 4, 3, 5};
        for (int sort = 0; sort < 3; sort++) {
            for (int i = 0; i < 5; i++) {
                AloneTogether x = row(sort, 1, 2, 3, 4, 5);
                CHECK.due(x, calls[i], n[i]);
                numbersAre(x, 0, sort, due[i]);
            }
        }
    }

    private static void copyMissing() {
        CHECK.of("Promise 37: -11");
        CHECK.stays(THREE, "copy(3, 0, 0, 0, 0)", -11);
        CHECK.stays(THREE, "copy(0, 0, 3, 0, 0)", -11);
        CHECK.stays(THREE, "copy(3, 0, 3, 0, 0)", -11);
        CHECK.stays(EMPTY, "copy(0, 0, 1, 0, 0)", -11);
    }

    private static void copyUnlikeSorts() {
        CHECK.of("Promise 37: -13: unlike sorts");
        for (int from = 0; from < 3; from++) {
            for (int to = 0; to < 3; to++) {
                AloneTogether x = row(from, 1, 2);
                Check.row(x, 1, to, 3, 4);
                CHECK.due(x, "copy(0, 0, 1, 0, 2)", from == to ? 2 : -13);
                numbersAre(x, 1, to, from == to ? 1 : 3, from == to ? 2 : 4);
            }
        }
        CHECK.stays(THREE, "copy(0, 0, 2, 0, 1)", -13);
        CHECK.stays(THREE, "copy(2, 0, 1, 0, 0)", -13);
    }

    private static void copyOutside() {
        CHECK.of("Promise 37: -12 (n below 0, too)");
        String[] calls = {"copy(0, -1, 1, 0, 1)", "copy(0, 0, 1, -1, 1)", "copy(0, 12, 1, 0, 1)", "copy(0, 0, 1, 13, 1)",
            "copy(0, 0, 1, 0, 13)", "copy(1, 0, 0, 0, 13)", "copy(0, 1, 1, 0, 12)", "copy(0, 0, 1, 2, 12)", "copy(0, 0, 1, 0, -1)",
            "copy(0, 13, 1, 0, 0)", "copy(0, 0, 1, 14, 0)", "copy(0, -1, 1, 0, 0)", "copy(0, 0, 1, -1, 0)", "copy(0, 0, 1, 0, MIN)",
            "copy(0, 0, 1, 0, MAX)", "copy(0, MAX, 1, 0, 1)", "copy(0, MIN, 1, 0, 1)", "copy(0, 0, 1, MAX, 1)", "copy(0, 0, 1, MIN, 1)",
            "copy(0, MAX, 1, MAX, MAX)", "copy(0, MIN, 1, MIN, MIN)", "copy(0, 1, 1, 0, MAX)", "copy(0, MAX, 1, 0, MIN)",
            "copy(0, 5, 0, 6, 7)", "copy(0, 6, 0, 5, 7)", "copy(0, 1, 0, 1, -1)"};
        for (String call : calls) CHECK.stays(THREE, call, -12);
        CHECK.stays(FULL, "copy(1, 0, 2, 0, 1)", -12);
        CHECK.stays(FULL, "copy(2, 0, 1, 0, 1)", -12);
        CHECK.stays(FULL, "copy(0, 41, 0, 0, 0)", -12);
        CHECK.due(Houses.three(), "copy(0, 11, 1, 12, 1)", 1);
        CHECK.due(Houses.three(), "copy(0, 0, 1, 1, 12)", 12);
        CHECK.due(Houses.full(), "copy(0, 0, 0, 0, 40)", 40);
    }

    private static void menBy() {
        CHECK.of("Promise 38: MEN by a SHEET of a sort: from a place on, one by one (as of man()), n of them: how many came");
        String newMan = "(count\\(0\\)|told\\([3-5],|told\\(2, 16\\)|hour\\([2-5],|asks\\(., [2-5],).*";
        CHECK.changesOnly(THREE, "menBy(2, 2, 4, 1)", 1, newMan);
        CHECK.changesOnly(THREE, "menBy(2, 2, 0, 3)", 3, newMan);
        AloneTogether x = new AloneTogether();
        Check.row(x, 2, 1, 3, 10, 25, 36, 47, 58, 59);
        CHECK.due(x, "menBy(2, 1, 1, 6)", 6);
        int[] kindMores = {10, 25, 36, 47, 58, 59};
        for (int m = 0; m < 6; m++) {
            CHECK.due("MAN " + m, 10 * x.told(m, 13) + x.told(m, 14), kindMores[m]);
            CHECK.due(x, "told(" + m + ", 15)", m);
        }
    }

    private static void menByN() {
        CHECK.of("Promise 38: n of them (0 .. 6); BAD: n");
        for (int n = 0; n <= 6; n++) {
            AloneTogether x = row(0, 0, 1, 2, 3, 4, 5, 6);
            CHECK.due(x, "menBy(0, 0, 0, " + n + ")", n);
            CHECK.due(x, "count(0)", n);
        }
        for (String n : new String[] {"-1", "7", "MIN", "MAX"}) CHECK.stays(THREE, "menBy(2, 2, 0, " + n + ")", -2);
        CHECK.stays(THREE, "menBy(2, 2, 4, 0)", 0);
        CHECK.stays(FULL, "menBy(1, 1, 0, 0)", 0);
    }

    private static void menByWrong() {
        CHECK.of("Promise 38: BAD: SHEET, sort; -11; -13");
        for (String s : NO_SHEET) CHECK.stays(THREE, "menBy(" + s + ", 2, 0, 1)", -2);
        for (String sort : new String[] {"-1", "3", "MIN", "MAX"}) CHECK.stays(THREE, "menBy(2, " + sort + ", 0, 1)", -2);
        for (int sort = 0; sort < 3; sort++) CHECK.stays(THREE, "menBy(3, " + sort + ", 0, 1)", -11);
        CHECK.stays(THREE, "menBy(2, 0, 0, 1)", -13);
        CHECK.stays(THREE, "menBy(2, 1, 0, 1)", -13);
        CHECK.stays(FULL, "menBy(0, 1, 0, 1)", -13);
        CHECK.stays(FULL, "menBy(0, 2, 0, 1)", -13);
    }

    private static void menByLeftOut() {
        CHECK.of("Promise 38: how many came (others are left out)");
        AloneTogether x = row(2, -1, 0, 60, 59, Integer.MIN_VALUE, Integer.MAX_VALUE);
        CHECK.due(x, "menBy(0, 2, 0, 6)", 2);
        CHECK.due(x, "count(0)", 2);
        CHECK.due(x, "told(0, 13)", 0);
        CHECK.due(x, "told(1, 13)", 5);
        for (int men = 0; men <= 6; men++) {
            AloneTogether y = row(0, 1, 2, 3, 4, 5, 6);
            for (int m = 0; m < men; m++) y.man(0);
            CHECK.due(y, "menBy(0, 0, 0, 6)", 6 - men);
            CHECK.due(y, "count(0)", 6);
            if (men < 6) CHECK.due(y, "told(5, 14)", 6 - men);
        }
        CHECK.stays(FULL, "menBy(0, 0, 0, 6)", 0);
    }

    private static void menByOutside() {
        CHECK.of("Promise 38: -12: what stood ahead came");
        for (String from : new String[] {"-1", "5", "MIN", "MAX"}) CHECK.stays(THREE, "menBy(2, 2, " + from + ", 3)", -12);
        CHECK.stays(FULL, "menBy(1, 1, 0, 1)", -12);
        CHECK.stays(FULL, "menBy(0, 0, 39, 2)", -12);
        for (int from = 0; from < 5; from++) {
            AloneTogether x = row(1, 10, 11, 12, 13, 14);
            CHECK.due(x, "menBy(0, 1, " + from + ", 6)", -12);
            CHECK.due(x, "count(0)", 5 - from);
            CHECK.due(x, "told(0, 14)", from);
        }
        AloneTogether x = row(1, 10, 60, 12);
        CHECK.due(x, "menBy(0, 1, 0, 4)", -12);
        CHECK.due(x, "count(0)", 2);
        CHECK.due(row(1, 10, 11), "menBy(0, 1, 0, 2)", 2);
    }

    private static void takenOfAKind() {
        CHECK.of("Promise 39: 0 .. 5 MEN, taken for 0 .. 5 a MAN of that KIND (also of one that is one): his number");
        String[] is = {"0", "01", "02", "013", "024", "05"};
        for (int m = 0; m < 6; m++) {
            for (int kind = 0; kind < 6; kind++) {
                // In that house the man of a number is of that KIND; two of them have changed PLACES.
                CHECK.stays(FULL, "taken(" + m + ", " + kind + ")", is[m].contains("" + kind) ? m : -13);
            }
        }
    }

    private static void takenHours() {
        CHECK.of("Promise 39: 6 .. 17 HOURS 0 .. 11, taken for 6 an HOUR: whether it is WATCHED (1, 0)");
        for (int h = 0; h < 12; h++) {
            CHECK.stays(THREE, "taken(" + (6 + h) + ", 6)", 2925 >> h & 1);
            CHECK.due(Houses.full(), "taken(" + (6 + h) + ", 6)", 1);
            CHECK.due(Houses.empty(), "taken(" + (6 + h) + ", 6)", 0);
        }
    }

    private static void takenKind() {
        CHECK.of("Promise 39: BAD: kind");
        for (String kind : new String[] {"-1", "7", "MIN", "MAX"}) {
            for (int i : new int[] {0, 5, 6, 17}) CHECK.stays(THREE, "taken(" + i + ", " + kind + ")", -2);
        }
    }

    private static void takenPlace() {
        CHECK.of("Promise 39: -12: i");
        for (String i : new String[] {"-1", "18", "MIN", "MAX"}) {
            for (int kind = 0; kind < 7; kind += 3) CHECK.stays(THREE, "taken(" + i + ", " + kind + ")", -12);
        }
        CHECK.stays(THREE, "taken(0, 0)", 0);
        CHECK.stays(THREE, "taken(17, 6)", 1);
    }

    private static void takenNobody() {
        CHECK.of("Promise 39: -11: no such MAN");
        for (int kind = 0; kind < 7; kind++) {
            CHECK.stays(THREE, "taken(3, " + kind + ")", -11);
            CHECK.stays(THREE, "taken(5, " + kind + ")", -11);
            CHECK.stays(EMPTY, "taken(0, " + kind + ")", -11);
        }
        CHECK.stays(THREE, "taken(2, 2)", 2);
        CHECK.stays(FULL, "taken(5, 5)", 5);
    }

    private static void takenFor() {
        CHECK.of("Promise 39: -13 (of another sort or KIND)");
        for (int m = 0; m < 3; m++) CHECK.stays(THREE, "taken(" + m + ", 6)", -13);
        for (int kind = 0; kind < 6; kind++) {
            CHECK.stays(THREE, "taken(6, " + kind + ")", -13);
            CHECK.stays(THREE, "taken(17, " + kind + ")", -13);
        }
    }
}
