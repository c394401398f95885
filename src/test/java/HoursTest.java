/** Promises 12 to 15: hours, days. */
public final class HoursTest {
    private static final Check CHECK = new Check("HoursTest");

    public static void main(String[] args) {
        signs();
        minds();
        serves();
        hour();
        hourWrong();
        day();
        dayWrong();
        all();
        live();
        liveTellsAllAhead();
        CHECK.end();
    }

    /** What a DOING of a KIND is to the MATE, by DOING 0 .. 5. */
    private static void signs() {
        int[][] due = {
            {0, 1, 2, 3, 4, 5},
            {1, 2, 3, 4, 5, 5},
            {0, 0, 0, 3, 4, 5},
            {1, 2, 3, 0, 0, 0},
            {0, 0, 0, 3, 4, 5},
            {0, 1, 2, 3, 4, 0}};
        for (int kind = 0; kind < 6; kind++) {
            for (int doing = 0; doing < 6; doing++) {
                AloneTogether x = new AloneTogether();
                x.man(0);
                x.man(10 * kind + 9);
                x.put(1, 4, doing);
                CHECK.due("KIND " + kind + " SIGNS " + doing, x.hour(0, 4, 0), due[kind][doing]);
            }
        }
    }

    private static int company(int kind, int more, String counts) {
        AloneTogether x = new AloneTogether();
        x.man(10 * kind + more);
        x.man(0);
        Check.law(x, counts, "0", "0");
        return x.hour(0, 0, 1);
    }

    private static void minds() {
        CHECK.due("a MAN minds", company(0, 5, "7"), 7);
        CHECK.due("a RESTLESS minds", company(1, 5, "7"), 7);
        CHECK.due("a STILL minds", company(2, 5, "7"), 3);
        CHECK.due("a STILL minds 1", company(2, 5, "1"), 0);
        CHECK.due("a MUTE minds", company(3, 5, "7"), 12);
        CHECK.due("a MUTE minds 99", company(3, 9, "2000"), 108);
        CHECK.due("a MUTE minds 0", company(3, 0, "0"), 0);
        CHECK.due("a LIFER minds MORE", company(4, 7, "7"), 0);
        CHECK.due("a LIFER minds less", company(4, 7, "6"), 0);
        CHECK.due("a LIFER minds 1 more", company(4, 7, "8"), 4);
        CHECK.due("a LIFER minds 99", company(4, 9, "99"), 49);
        CHECK.due("a TRUSTY minds", company(5, 5, "7"), 7);
    }

    private static int days(int kind, int more, String pays) {
        AloneTogether x = new AloneTogether();
        x.man(10 * kind + more);
        x.man(0);
        x.watches(1);
        Check.law(x, "99", pays, "0");
        return x.hour(0, 0, 2);
    }

    private static void serves() {
        CHECK.due("a MAN serves", days(0, 5, "8"), 8);
        CHECK.due("a RESTLESS serves", days(1, 5, "8"), 8);
        CHECK.due("a STILL serves", days(2, 5, "8"), 8);
        CHECK.due("a MUTE serves", days(3, 5, "8"), 8);
        CHECK.due("a LIFER serves", days(4, 5, "8"), 2);
        CHECK.due("a LIFER serves 99", days(4, 5, "500"), 33);
        CHECK.due("a TRUSTY serves", days(5, 5, "8"), 3);
        CHECK.due("a TRUSTY serves 0 at least", days(5, 9, "8"), 0);
    }

    private static AloneTogether two() {
        AloneTogether x = new AloneTogether();
        x.man(0);
        x.man(10);
        Check.doings(x, 0, 0, 2, 3, 5, 0, 1);
        Check.doings(x, 1, 4, 0, 1, 5, 3, 2);
        x.watches(0b001110);
        return x;
    }

    private static void hour() {
        AloneTogether x = two();
        int[] signs = {5, 1, 2, 5, 4, 3};
        int[] company = {0, 2, 6, 25, 0, 3};
        int[] days = {0, 9, 9, 9, 0, 0};
        for (int h = 0; h < 6; h++) {
            CHECK.due("SIGN in " + h, x.hour(0, h, 0), signs[h]);
            CHECK.due("COMPANY in " + h, x.hour(0, h, 1), company[h]);
            CHECK.due("DAYS in " + h, x.hour(0, h, 2), days[h]);
        }
        x.watches(4095);
        CHECK.due("watched, without COMPANY", x.hour(0, 0, 2), 0);
        x.man(30);
        x.put(2, 3, 5);
        Check.law(x, "9", "9", "9");
        for (int what = 0; what < 3; what++) CHECK.due("without a MATE", x.hour(2, 3, what), 0);
        x.man(0);
        CHECK.due("with a MATE", x.hour(2, 3, 1), 9);
    }

    private static void hourWrong() {
        AloneTogether x = two();
        CHECK.due("hour of nobody", x.hour(2, 12, 3), -5);
        CHECK.due("hour of -1", x.hour(-1, 0, 0), -5);
        CHECK.due("hour 12", x.hour(0, 12, 0), -7);
        CHECK.due("hour -1", x.hour(0, -1, 0), -7);
        CHECK.due("hour what 3", x.hour(0, 0, 3), -7);
        CHECK.due("hour what -1", x.hour(0, 0, -1), -7);
    }

    private static void day() {
        AloneTogether x = two();
        CHECK.due("DAYS", x.day(0, 0), 27);
        CHECK.due("HOURS of COMPANY", x.day(0, 1), 4);
        CHECK.due("the first", x.day(0, 2), 1);
        CHECK.due("the most", x.day(0, 3), 25);
        CHECK.due("DAYS of the other one", x.day(1, 0), 18);
        CHECK.due("his HOURS of COMPANY", x.day(1, 1), 3);
        CHECK.due("his first", x.day(1, 2), 2);
        AloneTogether y = new AloneTogether();
        y.man(0);
        int[] alone = {0, 0, -1, 0};
        for (int what = 0; what < 4; what++) CHECK.due("a day alone", y.day(0, what), alone[what]);
    }

    private static void dayWrong() {
        AloneTogether x = two();
        CHECK.due("day of nobody", x.day(2, 4), -5);
        CHECK.due("day of -1", x.day(-1, 0), -5);
        CHECK.due("day what 4", x.day(0, 4), -7);
        CHECK.due("day what -1", x.day(0, -1), -7);
    }

    private static void all() {
        CHECK.due("ALL of none", new AloneTogether().all(), 0);
        AloneTogether x = two();
        CHECK.due("ALL of two", x.all(), 45);
        x.man(0);
        CHECK.due("ALL of three", x.all(), 45);
        x.watches(0);
        CHECK.due("ALL, nothing watched", x.all(), 0);
    }

    private static void live() {
        CHECK.due("none live", new AloneTogether().live(), 0);
        AloneTogether x = two();
        x.man(0);
        x.put(0, 12, 9970);
        x.put(1, 12, 5);
        CHECK.due("live", x.live(), 45);
        CHECK.due("TERM of 0", x.told(0, 12), 9997);
        CHECK.due("TERM of 1", x.told(1, 12), 23);
        CHECK.due("TERM of 2", x.told(2, 12), 0);
        CHECK.due("live again", x.live(), 45);
        CHECK.due("TERM of 0 at most", x.told(0, 12), 9999);
        CHECK.due("TERM of 1", x.told(1, 12), 41);
        for (int h = 0; h < 6; h++) CHECK.due("DOINGS stay", x.told(1, h), new int[] {4, 0, 1, 5, 3, 2}[h]);
    }

    /** DAYS by the TERM: those of a day don't hang on what that day adds. */
    private static void liveTellsAllAhead() {
        AloneTogether x = new AloneTogether();
        x.man(0);
        x.man(0);
        x.watches(3);
        Check.law(x, "1", "term + 1", "0");
        CHECK.due("the first day", x.live(), 4);
        CHECK.due("the second day", x.live(), 12);
        CHECK.due("TERM", x.told(1, 12), 8);
    }
}
