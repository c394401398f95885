/** Prints each answer that is not the one that is due; ends with exit code 1 if there was one. */
final class Check {
    private final String name;
    private int asked = 0;
    private int wrong = 0;

    Check(String name) {
        this.name = name;
    }

    void due(String call, long got, long want) {
        asked++;
        if (got == want) return;
        wrong++;
        System.out.println(name + ": " + call + " answered " + got + ", due is " + want);
    }

    void end() {
        System.out.println(name + ": " + asked + " answers, " + wrong + " not as due");
        if (asked == 0 || wrong != 0) System.exit(1);
    }

    /** Feeds the bytes to THE TAPE, five at a time. */
    static void feed(AloneTogether x, String bytes) {
        for (int i = 0; i < bytes.length(); i += 5) {
            int n = Math.min(5, bytes.length() - i);
            int[] five = new int[5];
            for (int j = 0; j < n; j++) five[j] = bytes.charAt(i + j);
            x.feed(n, five[0], five[1], five[2], five[3], five[4]);
        }
    }

    static int text(AloneTogether x, String bytes) {
        feed(x, bytes);
        return x.text();
    }

    /** Has a new TEXT be THE LAW. */
    static void law(AloneTogether x, String counts, String pays, String sees) {
        x.force(text(x, "counts " + counts + ";pays " + pays + ";sees " + sees + ";"));
    }

    static void doings(AloneTogether x, int m, int... doings) {
        for (int h = 0; h < doings.length; h++) x.put(m, h, doings[h]);
    }

    static void row(AloneTogether x, int s, int sort, int... numbers) {
        x.sheet(s, sort, numbers.length);
        for (int i = 0; i < numbers.length; i++) x.cell(s, i, numbers[i]);
    }
}
