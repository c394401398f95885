import java.util.List;
import java.util.function.Supplier;

/** Prints each answer that is not the one that is due; ends with exit code 1 if there was one. */
final class Check {
    private static final String NOTHING = "";

    private final String name;
    private String sentence = "";
    private int sentences = 0;
    private int asked = 0;
    private int wrong = 0;

    Check(String name) {
        this.name = name;
    }

    /** Tells the sentence of the document that the answers from here on are about. */
    void of(String sentenceOfDocument) {
        sentence = " [" + sentenceOfDocument + "]";
        sentences++;
    }

    void due(String call, long got, long want) {
        asked++;
        if (got == want) return;
        wrong++;
        System.out.println(name + ": " + call + " answered " + got + ", due is " + want + sentence);
    }

    /** Makes the call as it is written. */
    void due(AloneTogether x, String call, long want) {
        due(call, Calls.answer(x, call), want);
    }

    /** The call answers so in such a house, and changes nothing. */
    void stays(Supplier<AloneTogether> house, String call, long want) {
        changesOnly(house, call, want, NOTHING);
    }

    /** The call answers so in such a house, and changes only what is told by the calls of this pattern. */
    void changesOnly(Supplier<AloneTogether> house, String call, long want, String pattern) {
        for (int side = 0; side < Whole.SIDES; side++) {
            AloneTogether called = house.get();
            due(called, call, want);
            compare(call, Whole.side(house.get(), side), Whole.side(called, side), pattern);
        }
    }

    private void compare(String call, List<String> before, List<String> after, String pattern) {
        int size = Math.max(before.size(), after.size());
        for (int i = 0; i < size; i++) {
            String was = i < before.size() ? before.get(i) : "nothing", is = i < after.size() ? after.get(i) : "nothing";
            boolean may = !pattern.equals(NOTHING) && (was.matches(pattern) || is.matches(pattern));
            if (!may) due("behind " + call + ": " + is + ", ahead of it: " + was + ": alike", was.equals(is) ? 1 : 0, 1);
        }
    }

    void end() {
        String of = sentences == 0 ? "" : " of " + sentences + " sentences";
        System.out.println(name + ": " + asked + " answers" + of + ", " + wrong + " not as due");
        if (asked == 0 || wrong != 0) System.exit(1);
    }

    /** Feeds the bytes to THE TAPE, five at a time. */
    static void feed(AloneTogether x, String bytes) {
        for (int i = 0; i < bytes.length(); i += 5) {
            int n = Math.min(5, bytes.length() - i);
            int[] five = new int[5];
            for (int j = 0; j < n; j++) five[j] = bytes.charAt(i + j);
            x.feed(n, five[0], five[1], five[2], five[3], five[4]);
        }
    }

    static int text(AloneTogether x, String bytes) {
        feed(x, bytes);
        return x.text();
    }

    /** Has a new TEXT be THE LAW. */
    static void law(AloneTogether x, String counts, String pays, String sees) {
        x.force(text(x, "counts " + counts + ";pays " + pays + ";sees " + sees + ";"));
    }

    static void doings(AloneTogether x, int m, int... doings) {
        for (int h = 0; h < doings.length; h++) x.put(m, h, doings[h]);
    }

    static void row(AloneTogether x, int s, int sort, int... numbers) {
        x.sheet(s, sort, numbers.length);
        for (int i = 0; i < numbers.length; i++) x.cell(s, i, numbers[i]);
    }
}
