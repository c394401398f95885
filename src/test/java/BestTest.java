/** Promises 16 to 24: what would be best. ThoughtTest asks the same of many houses, and compares with what comes of it. */
public final class BestTest {
    private static final Check CHECK = new Check("BestTest");

    public static void main(String[] args) {
        better();
        betterOfLikeOnes();
        swap();
        beds();
        guard();
        codes();
        code();
        knows();
        still();
        unseen();
        CHECK.end();
    }

    /** Two MEN whose COMPANY is mine * his in HOURS 0 .. 2, all WATCHED. */
    private static AloneTogether two() {
        AloneTogether x = new AloneTogether();
        x.man(0);
        x.man(0);
        Check.doings(x, 0, 0, 2, 3);
        Check.doings(x, 1, 4, 1, 2);
        x.watches(4095);
        return x;
    }

    private static void better() {
        AloneTogether x = two();
        CHECK.due("better", x.better(0, 0), 10);
        CHECK.due("better, ALL", x.better(0, 1), 18);
        CHECK.due("better changes nothing", x.told(0, 1), 2);
        x.put(0, 1, 0);
        CHECK.due("better next", x.better(0, 0), 20);
        x.put(0, 2, 0);
        CHECK.due("better, none", x.better(0, 0), -1);
        CHECK.due("better, as now", x.better(0, 1), 0);
        x.man(0);
        CHECK.due("better alone", x.better(2, 0), -1);
        CHECK.due("better of nobody", x.better(3, 2), -5);
        CHECK.due("better of -1", x.better(-1, 0), -5);
        CHECK.due("better what 2", x.better(0, 2), -7);
        CHECK.due("better what -1", x.better(0, -1), -7);
    }

    private static void betterOfLikeOnes() {
        AloneTogether x = two();
        Check.law(x, "1", "9 - 2*(mine = 4) - 2*(mine = 5)*(hour = 3)", "0");
        CHECK.due("the first HOUR, the first DOING", x.better(0, 0), 4);
        CHECK.due("and ALL", x.better(0, 1), 24 * 9 - 2 - 2);
    }

    private static void swap() {
        AloneTogether x = new AloneTogether();
        CHECK.due("swap of none", x.swap(0), -1);
        CHECK.due("swap of none, ALL", x.swap(1), 0);
        for (int m = 0; m < 4; m++) x.man(0);
        x.watches(1);
        Check.doings(x, 0, 1);
        Check.doings(x, 1, 1);
        CHECK.due("swap", x.swap(0), 2);
        CHECK.due("swap, ALL", x.swap(1), 0);
        CHECK.due("swap changes nothing", x.told(0, 15), 0);
        x.move(0, 2);
        CHECK.due("swap, none less", x.swap(0), -1);
        CHECK.due("swap, as now", x.swap(1), 0);
        AloneTogether y = new AloneTogether();
        for (int m = 0; m < 3; m++) y.man(0);
        y.watches(1);
        Check.doings(y, 1, 1);
        Check.doings(y, 2, 1);
        y.move(0, 2);
        CHECK.due("swap with one alone", y.swap(0), 1);
        CHECK.due("swap what 2", x.swap(2), -2);
        CHECK.due("swap what -1", x.swap(-1), -2);
    }

    private static void beds() {
        AloneTogether x = new AloneTogether();
        CHECK.due("beds of none", x.beds(0), 0);
        CHECK.due("beds of none, ALL", x.beds(1), 0);
        x.man(0);
        CHECK.due("beds of one", x.beds(0), 1);
        for (int m = 1; m < 6; m++) x.man(0);
        CHECK.due("beds, all alike", x.beds(0), 123456);
        x.watches(3);
        for (int m = 0; m < 6; m++) Check.doings(x, m, m < 3 ? 0 : 1, m % 3 == 0 ? 1 : 0);
        // Neither two of the last three MEN may be together, nor the first and the fourth.
        CHECK.due("beds", x.beds(0), 152436);
        CHECK.due("beds, ALL", x.beds(1), 0);
        x.put(0, 1, 0);
        CHECK.due("beds", x.beds(0), 142536);
        x.put(0, 0, 1);
        CHECK.due("beds, some together", x.beds(0), 123456);
        CHECK.due("beds, ALL", x.beds(1), 18);
        CHECK.due("beds changes nothing", x.told(3, 15), 3);
        CHECK.due("beds what 2", x.beds(2), -2);
        CHECK.due("beds what -1", x.beds(-1), -2);
    }

    private static void guard() {
        AloneTogether x = two();
        x.watches(8);
        Check.law(x, "1", "watched * (hour = 5) * 3 + (hour = 11) * 2 + 1", "0");
        int[] sets = {0, 1 << 5, 1 << 5 | 1 << 11, 1 | 1 << 5 | 1 << 11};
        int[] most = {0, 8, 14, 16};
        for (int n = 0; n < 4; n++) {
            CHECK.due("guard " + n, x.guard(n, 0), sets[n]);
            CHECK.due("guard ALL " + n, x.guard(n, 1), most[n]);
        }
        CHECK.due("guard changes nothing", x.count(1), 8);
        CHECK.due("guard 4", x.guard(4, 0), -2);
        CHECK.due("guard -1", x.guard(-1, 0), -2);
        CHECK.due("guard what 2", x.guard(0, 2), -2);
        CHECK.due("guard what -1", x.guard(0, -1), -2);
        CHECK.due("guard, of like ones the least", new AloneTogether().guard(3, 0), 7);
    }

    private static AloneTogether quiet() {
        AloneTogether x = two();
        // One of two has COMPANY, but if both do the same.
        Check.law(x, "mine < his", "1", "1");
        return x;
    }

    private static void codes() {
        AloneTogether x = quiet();
        CHECK.due("codes 0", x.codes(0, 0), 1);
        CHECK.due("codes 1", x.codes(0, 1), 1);
        CHECK.due("codes 3", x.codes(0, 3), 1);
        Check.law(x, "his = 3", "1", "1");
        CHECK.due("codes of SIGNS", x.codes(0, 3), 125);
        CHECK.due("codes 12", x.codes(0, 12), 244140625);
        x.man(0);
        CHECK.due("codes alone", x.codes(2, 12), 2176782336L);
        x.put(1, 1, 3);
        CHECK.due("codes, none", x.codes(0, 2), 0);
        CHECK.due("codes of nobody", x.codes(3, 0), AloneTogether.NO);
        CHECK.due("codes of -1", x.codes(-1, 0), AloneTogether.NO);
        CHECK.due("codes 13", x.codes(0, 13), AloneTogether.NO);
        CHECK.due("codes -1", x.codes(0, -1), AloneTogether.NO);
    }

    private static void code() {
        AloneTogether x = quiet();
        CHECK.due("code 0", x.code(0, 0), 0);
        CHECK.due("code 3", x.code(0, 3), 523);
        CHECK.due("code 9", x.code(0, 9), 523111111);
        x.man(0);
        CHECK.due("code alone", x.code(2, 9), 111111111);
        Check.law(x, "hour = 1", "1", "1");
        CHECK.due("code 1", x.code(0, 1), 1);
        CHECK.due("code, none", x.code(0, 2), -1);
        CHECK.due("code of nobody", x.code(3, 10), -5);
        CHECK.due("code of -1", x.code(-1, 0), -5);
        CHECK.due("code 10", x.code(0, 10), -7);
        CHECK.due("code -1", x.code(0, -1), -7);
    }

    private static void knows() {
        int[] due = {0b000001, 0b110000, 0b000111, 0b111000, 0b000111, 0b100001};
        int[] doing = {0, 4, 2, 5, 0, 5};
        for (int kind = 0; kind < 6; kind++) {
            AloneTogether x = new AloneTogether();
            x.man(0);
            x.man(10 * kind);
            x.put(1, 6, doing[kind]);
            CHECK.due("knows of KIND " + kind, x.knows(0, 6), due[kind]);
        }
        AloneTogether x = new AloneTogether();
        x.man(0);
        CHECK.due("knows alone", x.knows(0, 0), 0);
        CHECK.due("knows of nobody", x.knows(1, 12), -5);
        CHECK.due("knows of -1", x.knows(-1, 0), -5);
        CHECK.due("knows 12", x.knows(0, 12), -7);
        CHECK.due("knows -1", x.knows(0, -1), -7);
    }

    private static void still() {
        AloneTogether x = quiet();
        CHECK.due("still", x.still(0), 3);
        x.put(0, 0, 4);
        CHECK.due("still", x.still(0), 2);
        x.put(0, 1, 1);
        CHECK.due("still", x.still(0), 1);
        x.put(0, 2, 2);
        CHECK.due("still", x.still(0), 0);
        Check.law(x, "hour = 11", "1", "1");
        CHECK.due("still, it can't be", x.still(0), -1);
        x.man(0);
        CHECK.due("still alone", x.still(2), 0);
        CHECK.due("still of nobody", x.still(3), -5);
        CHECK.due("still of -1", x.still(-1), -5);
    }

    private static void unseen(AloneTogether x, int m, int n, long above, long below) {
        CHECK.due("unseen above, " + n, x.unseen(m, n, 0), above);
        CHECK.due("unseen below, " + n, x.unseen(m, n, 1), below);
    }

    private static void unseen() {
        AloneTogether x = two();
        x.watches(0);
        unseen(x, 0, 0, 1, 1);
        unseen(x, 0, 1, 1, 1);
        unseen(x, 0, 2, 4, 5);
        unseen(x, 0, 3, 16, 25);
        unseen(x, 0, 8, 16, 25);
        Check.law(x, "1", "1", "1");
        unseen(x, 0, 8, 9227446944279201L, 10000000000000000L);
        Check.law(x, "1", "1", "100 * (hour = 1)");
        unseen(x, 0, 1, 1, 1);
        unseen(x, 0, 2, 0, 1);
        x.man(0);
        unseen(x, 2, 8, 1, 1);
        CHECK.due("unseen of nobody", x.unseen(3, 0, 0), AloneTogether.NO);
        CHECK.due("unseen of -1", x.unseen(-1, 0, 0), AloneTogether.NO);
        CHECK.due("unseen 9", x.unseen(0, 9, 0), AloneTogether.NO);
        CHECK.due("unseen -1", x.unseen(0, -1, 0), AloneTogether.NO);
        CHECK.due("unseen part 2", x.unseen(0, 0, 2), AloneTogether.NO);
        CHECK.due("unseen part -1", x.unseen(0, 0, -1), AloneTogether.NO);
    }
}
