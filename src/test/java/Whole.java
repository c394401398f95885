import java.util.ArrayList;
import java.util.List;

/**
 * All that can be told of an object, in sides. Telling a side may use the object up, and it bears some 512 calls only, so
 * each side is told of an object that was built anew.
 */
final class Whole {
    private static final int HOUSE = 0, LAW = 1, TEXTS = 2, TAPE = 3, IMAGE = 4, ROWS = 5, NUMBERS = 9;
    static final int SIDES = 13;

    private final AloneTogether x;
    private final List<String> told = new ArrayList<>();
    private String of = "";

    private Whole(AloneTogether x) {
        this.x = x;
    }

    /** Calls, each with its answer, and ahead of it of what it tells, as in IMAGE: told(0, 12) = 77; nothing if of the house. */
    static List<String> side(AloneTogether x, int side) {
        Whole whole = new Whole(x);
        if (side == HOUSE) whole.house();
        if (side == LAW) whole.law(x.count(0));
        if (side == TEXTS) whole.texts();
        if (side == TAPE) whole.tape();
        if (side == IMAGE) whole.image();
        if (side >= ROWS && side < NUMBERS) whole.row(side - ROWS);
        if (side >= NUMBERS) whole.numbers(side - NUMBERS);
        return whole.told;
    }

    private long tell(String call) {
        long answer = Calls.answer(x, call);
        told.add(of + call + " = " + answer);
        return answer;
    }

    private void house() {
        tell("count(0)");
        tell("count(1)");
        tell("count(3)");
        for (int h = 0; h < 12; h++) tell("taken(" + (6 + h) + ", 6)");
        for (int m = 0; m < 6; m++) {
            for (int what = 0; what < 17; what++) tell("told(" + m + ", " + what + ")");
            for (int h = 0; h < 12; h++) tell("hour(" + m + ", " + h + ", 2)");
        }
    }

    private void law(int men) {
        for (int m = 0; m < men; m++) {
            for (int h = 0; h < 12; h++) {
                for (int part = 0; part < 3; part++) tell("asks(" + part + ", " + m + ", " + h + ")");
            }
        }
    }

    private void texts() {
        int texts = (int) tell("count(2)");
        if (x.count(0) == 0) x.man(37);
        for (int t = 0; t < texts; t++) {
            of = "TEXT " + t + ": ";
            x.force(t);
            law(1);
        }
    }

    /** THE TAPE of a house of Houses can still become a TEXT, of which this is the rest. */
    private void tape() {
        of = "TAPE: ";
        tell("count(4)");
        Check.feed(x, "ys 4;sees 5;");
        int t = (int) tell("text()");
        if (t < 0) return;
        x.force(t);
        if (x.count(0) == 0) x.man(37);
        law(1);
    }

    private void image() {
        of = "IMAGE: ";
        if (tell("back()") >= 0) house();
    }

    private void row(int s) {
        of = "SHEET " + s + ": ";
        for (int sort = 0; sort < 3; sort++) tell("menBy(" + s + ", " + sort + ", 0, 0)");
        for (int i = 0; i <= 41; i++) tell("copy(" + s + ", " + i + ", " + s + ", " + i + ", 0)");
    }

    /** Numbers 0 .. 59 are told by the MEN that come by them; all others look alike. */
    private void numbers(int s) {
        of = "SHEET " + s + ": ";
        int sort = 0;
        while (sort < 2 && x.menBy(s, sort, 0, 0) != 0) sort++;
        if (x.count(0) == 6) x.back();
        int m = x.image();
        for (int i = 0; i < 40; i++) {
            int came = x.menBy(s, sort, i, 1);
            if (came < 0) return;
            told.add(of + "number " + i + " = " + (came == 0 ? "another" : "" + (10 * x.told(m, 13) + x.told(m, 14))));
            x.back();
        }
    }
}
