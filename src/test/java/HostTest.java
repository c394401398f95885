/** Promises 35 to 39: the host. */
public final class HostTest {
    private static final Check CHECK = new Check("HostTest");

    public static void main(String[] args) {
        sheet();
        cell();
        narrowed();
        copy();
        copyOnItself();
        copyWrong();
        menBy();
        menByWrong();
        menByFull();
        takenMen();
        takenHours();
        takenWrong();
        CHECK.end();
    }

    /** Number i of a SHEET of ints (0 .. 59), as a MAN that it makes. */
    private static int number(AloneTogether x, int s, int sort, int i) {
        x.image();
        int m = x.count(0);
        int came = x.menBy(s, sort, i, 1);
        int number = came == 1 ? x.told(m, 13) * 10 + x.told(m, 14) : -1;
        x.back();
        return number;
    }

    private static void sheet() {
        AloneTogether x = new AloneTogether();
        for (int sort = 0; sort < 3; sort++) {
            CHECK.due("sheet", x.sheet(sort, sort, 40), 1);
            CHECK.due("its last number", number(x, sort, sort, 39), 0);
            CHECK.due("behind it", x.cell(sort, 40, 1), -12);
        }
        CHECK.due("sheet of 0", x.sheet(3, 0, 0), 1);
        CHECK.due("a row without a number", x.cell(3, 0, 1), -12);
        for (int i = 0; i < 5; i++) x.cell(0, i, 5);
        CHECK.due("sheet anew", x.sheet(0, 0, 4), 1);
        for (int i = 0; i < 4; i++) CHECK.due("all 0", number(x, 0, 0, i), 0);
        CHECK.due("missing", x.sheet(0, -1, 41), 1);
        CHECK.due("it is missing", x.cell(0, 0, 1), -11);
        CHECK.due("missing again", x.sheet(0, -1, -5), 1);
        CHECK.due("sheet 4", x.sheet(4, 0, -1), -2);
        CHECK.due("sheet -1", x.sheet(-1, 0, 0), -2);
        CHECK.due("sort 3", x.sheet(1, 3, -1), -2);
        CHECK.due("sort -2", x.sheet(1, -2, 0), -2);
        CHECK.due("41 numbers", x.sheet(1, 0, 41), -2);
        CHECK.due("-1 numbers", x.sheet(1, 0, -1), -14);
        CHECK.due("refused, it stays", x.cell(1, 39, 0), 1);
    }

    private static void cell() {
        AloneTogether x = new AloneTogether();
        x.sheet(2, 2, 3);
        CHECK.due("cell", x.cell(2, 2, 59), 1);
        CHECK.due("its number", number(x, 2, 2, 2), 59);
        CHECK.due("its neighbour", number(x, 2, 2, 1), 0);
        CHECK.due("cell 3", x.cell(2, 3, 1), -12);
        CHECK.due("cell -1", x.cell(2, -1, 1), -12);
        CHECK.due("cell of a missing one", x.cell(0, -1, 1), -11);
        CHECK.due("cell of sheet 4", x.cell(4, -1, 1), -2);
        CHECK.due("cell of sheet -1", x.cell(-1, 0, 1), -2);
    }

    private static void narrowed() {
        AloneTogether x = new AloneTogether();
        for (int sort = 0; sort < 3; sort++) Check.row(x, sort, sort, 256 + 7, 65536 + 8, -256 * 256 * 256 + 9);
        int[][] due = {{7, 8, 9}, {-1, 8, 9}, {-1, -1, -1}};
        for (int sort = 0; sort < 3; sort++) {
            for (int i = 0; i < 3; i++) CHECK.due("narrowed", number(x, sort, sort, i), due[sort][i]);
        }
    }

    private static void copy() {
        AloneTogether x = new AloneTogether();
        Check.row(x, 0, 0, 1, 2, 3, 4, 5);
        x.sheet(1, 0, 4);
        CHECK.due("copy", x.copy(0, 2, 1, 1, 3), 3);
        int[] due = {0, 3, 4, 5};
        for (int i = 0; i < 4; i++) CHECK.due("copied", number(x, 1, 0, i), due[i]);
        for (int i = 0; i < 5; i++) CHECK.due("where it came from", number(x, 0, 0, i), i + 1);
        CHECK.due("copy none", x.copy(0, 5, 1, 4, 0), 0);
        CHECK.due("copy all", x.copy(1, 0, 0, 1, 4), 4);
        CHECK.due("copied", number(x, 0, 0, 4), 5);
        CHECK.due("copied", number(x, 0, 0, 1), 0);
    }

    private static void copyOnItself() {
        AloneTogether x = new AloneTogether();
        Check.row(x, 0, 1, 1, 2, 3, 4, 5);
        CHECK.due("copy ahead", x.copy(0, 0, 0, 1, 4), 4);
        int[] ahead = {1, 1, 2, 3, 4};
        for (int i = 0; i < 5; i++) CHECK.due("as they were", number(x, 0, 1, i), ahead[i]);
        Check.row(x, 0, 1, 1, 2, 3, 4, 5);
        CHECK.due("copy back", x.copy(0, 2, 0, 0, 3), 3);
        int[] behind = {3, 4, 5, 4, 5};
        for (int i = 0; i < 5; i++) CHECK.due("as they were", number(x, 0, 1, i), behind[i]);
    }

    private static void copyWrong() {
        AloneTogether x = new AloneTogether();
        x.sheet(0, 0, 5);
        x.sheet(1, 0, 3);
        x.sheet(2, 1, 3);
        CHECK.due("from sheet 4", x.copy(4, 0, 3, 0, 1), -2);
        CHECK.due("to sheet -1", x.copy(3, 0, -1, 0, 1), -2);
        CHECK.due("from a missing one", x.copy(3, -1, 0, 0, 1), -11);
        CHECK.due("to a missing one", x.copy(0, -1, 3, 0, 1), -11);
        CHECK.due("unlike sorts", x.copy(0, -1, 2, 0, 1), -13);
        CHECK.due("from -1", x.copy(0, -1, 1, 0, 1), -12);
        CHECK.due("to -1", x.copy(0, 0, 1, -1, 1), -12);
        CHECK.due("-1 numbers", x.copy(0, 0, 1, 0, -1), -12);
        CHECK.due("too many to", x.copy(0, 0, 1, 0, 4), -12);
        CHECK.due("too many from", x.copy(1, 1, 0, 0, 3), -12);
        CHECK.due("none from behind the end", x.copy(1, 4, 0, 0, 0), -12);
        int most = Integer.MAX_VALUE;
        CHECK.due("far from", x.copy(0, most, 1, 0, 1), -12);
        CHECK.due("far to", x.copy(0, 0, 1, most, most), -12);
        CHECK.due("far less", x.copy(0, 0, 1, 0, Integer.MIN_VALUE), -12);
    }

    private static void menBy() {
        AloneTogether x = new AloneTogether();
        Check.row(x, 0, 2, 47, 99, 59, -1, 60, 12);
        CHECK.due("menBy", x.menBy(0, 2, 0, 6), 3);
        CHECK.due("MEN", x.count(0), 3);
        int[] kindMore = {47, 59, 12};
        for (int m = 0; m < 3; m++) CHECK.due("MAN", x.told(m, 13) * 10 + x.told(m, 14), kindMore[m]);
        CHECK.due("none", x.menBy(0, 2, 0, 0), 0);
        CHECK.due("from 5", x.menBy(0, 2, 5, 1), 1);
        CHECK.due("MEN", x.count(0), 4);
        for (int sort = 0; sort < 2; sort++) {
            Check.row(x, 1, sort, 33);
            CHECK.due("of sort " + sort, x.menBy(1, sort, 0, 1), 1);
            CHECK.due("MAN", x.told(4 + sort, 13) * 10 + x.told(4 + sort, 14), 33);
        }
    }

    private static void menByWrong() {
        AloneTogether x = new AloneTogether();
        Check.row(x, 0, 0, 1, 2, 3);
        CHECK.due("sheet 4", x.menBy(4, 0, 0, 1), -2);
        CHECK.due("sheet -1", x.menBy(-1, 0, 0, 1), -2);
        CHECK.due("sort 3", x.menBy(1, 3, 0, 1), -2);
        CHECK.due("sort -1", x.menBy(1, -1, 0, 1), -2);
        CHECK.due("7 MEN", x.menBy(1, 0, 0, 7), -2);
        CHECK.due("-1 MEN", x.menBy(1, 0, 0, -1), -2);
        CHECK.due("missing", x.menBy(1, 0, -1, 1), -11);
        CHECK.due("another sort", x.menBy(0, 1, -1, 1), -13);
        CHECK.due("from -1", x.menBy(0, 0, -1, 2), -12);
        CHECK.due("from 3", x.menBy(0, 0, 3, 1), -12);
        CHECK.due("from afar", x.menBy(0, 0, Integer.MAX_VALUE, 6), -12);
        CHECK.due("none came", x.count(0), 0);
        CHECK.due("past the end", x.menBy(0, 0, 1, 3), -12);
        CHECK.due("what stood ahead came", x.count(0), 2);
    }

    private static void menByFull() {
        AloneTogether x = new AloneTogether();
        for (int m = 0; m < 4; m++) x.man(0);
        Check.row(x, 0, 0, 1, 2, 3, 4);
        CHECK.due("two have room", x.menBy(0, 0, 0, 4), 2);
        CHECK.due("none has room", x.menBy(0, 0, 0, 4), 0);
        CHECK.due("none has room, past the end", x.menBy(0, 0, 0, 5), -12);
        CHECK.due("MEN", x.count(0), 6);
        CHECK.due("the last", x.told(5, 14), 2);
    }

    private static void takenMen() {
        // Of which KINDS one of a KIND is one.
        String[] due = {"0", "01", "02", "013", "024", "05"};
        for (int kind = 0; kind < 6; kind++) {
            AloneTogether x = new AloneTogether();
            x.man(0);
            x.man(10 * kind);
            for (int other = 0; other < 6; other++) {
                boolean is = due[kind].indexOf('0' + other) >= 0;
                CHECK.due("KIND " + kind + " taken for " + other, x.taken(1, other), is ? 1 : -13);
            }
            CHECK.due("taken for an HOUR", x.taken(1, 6), -13);
        }
        AloneTogether x = new AloneTogether();
        x.man(10);
        x.man(20);
        x.move(0, 1);
        CHECK.due("his number, wherever he lies", x.taken(0, 1), 0);
        CHECK.due("his number, wherever he lies", x.taken(1, 2), 1);
    }

    private static void takenHours() {
        AloneTogether x = new AloneTogether();
        x.watches(0b100000000101);
        for (int h = 0; h < 12; h++) {
            CHECK.due("HOUR " + h, x.taken(6 + h, 6), h == 0 || h == 2 || h == 11 ? 1 : 0);
            for (int kind = 0; kind < 6; kind++) CHECK.due("HOUR taken for a MAN", x.taken(6 + h, kind), -13);
        }
    }

    private static void takenWrong() {
        AloneTogether x = new AloneTogether();
        x.man(0);
        CHECK.due("kind 7", x.taken(18, 7), -2);
        CHECK.due("kind -1", x.taken(-1, -1), -2);
        CHECK.due("place 18", x.taken(18, 0), -12);
        CHECK.due("place -1", x.taken(-1, 6), -12);
        CHECK.due("nobody", x.taken(1, 0), -11);
        CHECK.due("nobody, taken for an HOUR", x.taken(5, 6), -11);
    }
}
