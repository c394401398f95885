import java.util.function.Supplier;

/** The edges that promises 1 to 11 name. A refused call changes nothing: each is made in houses that are told whole. */
public final class LawAndMenEdgesTest {
    private static final Check CHECK = new Check("LawAndMenEdgesTest");
    private static final Supplier<AloneTogether> EMPTY = Houses::empty, THREE = Houses::three, FULL = Houses::full;
    private static final String FITS = "counts 1;pays 2;sees 3;";

    public static void main(String[] args) {
        newObject();
        count();
        watches();
        feedSome();
        feedBytes();
        feedFull();
        feedOneByOne();
        text();
        textOfAFault();
        textBehindAFault();
        textFull();
        force();
        asks();
        man();
        manFull();
        putWhat();
        putDoing();
        putTerm();
        putMan();
        told();
        toldMate();
        move();
        CHECK.end();
    }

    private static void newObject() {
        CHECK.of("Promise 1: No MEN, nothing WATCHED");
        int[] due = {0, 0, 1, 0, 0};
        for (int what = 0; what < 5; what++) CHECK.due(new AloneTogether(), "count(" + what + ")", due[what]);
        CHECK.due(new AloneTogether(), "told(0, 13)", -5);
        for (int h = 0; h < 12; h++) CHECK.due(new AloneTogether(), "taken(" + (6 + h) + ", 6)", 0);
        CHECK.due(new AloneTogether(), "all()", 0);
    }

    private static void count() {
        CHECK.of("Promise 2: 0 MEN, 1 WATCHED (bits), 2 TEXTS, 3 THE LAW, 4 bytes of THE TAPE. BAD");
        int[] three = {3, 2925, 2, 1, 11}, full = {6, 4095, 6, 5, 160};
        for (int what = 0; what < 5; what++) {
            CHECK.stays(THREE, "count(" + what + ")", three[what]);
            CHECK.stays(FULL, "count(" + what + ")", full[what]);
        }
        for (String what : new String[] {"-1", "5", "MIN", "MAX"}) CHECK.stays(THREE, "count(" + what + ")", -2);
    }

    private static void watches() {
        CHECK.of("Promise 3: WATCHED becomes a set (bits 0 .. 11): what it was. BAD");
        String told = "(count\\(1\\)|taken|hour|asks|TEXT|TAPE).*";
        CHECK.changesOnly(THREE, "watches(0)", 2925, told);
        CHECK.changesOnly(THREE, "watches(1)", 2925, told);
        CHECK.changesOnly(THREE, "watches(2048)", 2925, told);
        CHECK.changesOnly(EMPTY, "watches(4095)", 0, told);
        for (String set : new String[] {"-1", "4096", "8191", "MIN", "MAX"}) CHECK.stays(THREE, "watches(" + set + ")", -2);
        AloneTogether x = new AloneTogether();
        int[] sets = {4095, 0, 1, 2048};
        for (int i = 0; i < 4; i++) {
            CHECK.due(x, "watches(" + sets[i] + ")", i == 0 ? 0 : sets[i - 1]);
            CHECK.due(x, "count(1)", sets[i]);
        }
    }

    private static void feedSome() {
        CHECK.of("Promise 4: The first n (1 .. 5) of five bytes; BAD: n");
        for (int n = 1; n <= 5; n++) CHECK.due(new AloneTogether(), "feed(" + n + ", 99, 99, 99, 99, 99)", n);
        for (String n : new String[] {"0", "6", "-1", "MIN", "MAX"}) CHECK.stays(THREE, "feed(" + n + ", 1, 2, 3, 4, 5)", -2);
    }

    private static void feedBytes() {
        CHECK.of("Promise 4: five bytes (0 .. 255 each); BAD: any of the five");
        for (int i = 0; i < 5; i++) {
            for (String wrong : new String[] {"-1", "256", "MIN", "MAX"}) {
                // Also one of those that would not come.
                CHECK.stays(THREE, fed(1, i, wrong), -2);
                CHECK.stays(THREE, fed(5, i, wrong), -2);
            }
            CHECK.due(new AloneTogether(), fed(5, i, "0"), 5);
            CHECK.due(new AloneTogether(), fed(5, i, "255"), 5);
        }
    }

    private static String fed(int n, int i, String v) {
        StringBuilder call = new StringBuilder("feed(" + n);
        for (int j = 0; j < 5; j++) call.append(", ").append(j == i ? v : "99");
        return call + ")";
    }

    private static AloneTogether tape(int size) {
        AloneTogether x = Houses.three();
        for (int i = 11; i < size; i++) x.feed(1, ' ', 0, 0, 0, 0);
        return x;
    }

    private static void feedFull() {
        CHECK.of("Promise 4: FULL: they have not all room (none comes)");
        for (int n = 1; n <= 5; n++) {
            int room = 160 - n;
            CHECK.due(tape(room), "feed(" + n + ", 32, 32, 32, 32, 32)", 160);
            CHECK.stays(() -> tape(room + 1), "feed(" + n + ", 32, 32, 32, 32, 32)", -4);
            CHECK.stays(() -> tape(160), "feed(" + n + ", 32, 32, 32, 32, 32)", -4);
        }
    }

    private static void feedOneByOne() {
        CHECK.of("Promise 4: The first n of five bytes come behind THE TAPE's, one by one: how many it has");
        String text = "counts 7;pays 8;sees 9;";
        for (int n = 1; n <= 5; n++) {
            AloneTogether x = new AloneTogether();
            for (int i = 0; i < text.length(); i += n) {
                int come = Math.min(n, text.length() - i);
                StringBuilder call = new StringBuilder("feed(" + come);
                // What is behind the first n would be a FAULT, did it come.
                for (int j = 0; j < 5; j++) call.append(", ").append(j < come ? text.charAt(i + j) : '?');
                CHECK.due(x, numbered(call + ")"), i + come);
            }
            CHECK.due(x, "text()", 1);
            x.man(0);
            x.force(1);
            for (int part = 0; part < 3; part++) CHECK.due(x, "asks(" + part + ", 0, 0)", 7 + part);
        }
        CHECK.changesOnly(EMPTY, "feed(2, 99, 111, 0, 0, 0)", 2, "(count\\(4\\)|TAPE).*");
    }

    /** A call of letters as one of their numbers. */
    private static String numbered(String call) {
        String[] parts = call.split(", ", -1);
        StringBuilder numbers = new StringBuilder(parts[0]);
        for (int i = 1; i < parts.length; i++) numbers.append(", ").append((int) parts[i].charAt(0));
        return numbers + ")";
    }

    private static AloneTogether fed(AloneTogether x, String bytes) {
        Check.feed(x, bytes);
        return x;
    }

    private static void text() {
        CHECK.of("Promise 5: THE TAPE, which is empty then, is a TEXT: its number");
        CHECK.changesOnly(() -> fed(new AloneTogether(), FITS), "text()", 1, "(count\\([24]\\)|TEXT 1|TAPE).*");
        CHECK.changesOnly(() -> fed(Houses.three(), "ys 1;sees 1;"), "text()", 2, "(count\\([24]\\)|TEXT 2|TAPE).*");
        AloneTogether x = fed(new AloneTogether(), FITS);
        CHECK.due(x, "text()", 1);
        CHECK.due(x, "count(4)", 0);
        CHECK.due(x, "count(2)", 2);
        CHECK.due(x, "count(3)", 0);
        CHECK.due(x, "text()", -100);
        CHECK.due(x, "count(2)", 2);
    }

    private static void textOfAFault() {
        CHECK.of("Promise 5: -100 less the place of its FAULT; empty by a FAULT, too");
        CHECK.changesOnly(THREE, "text()", -109, "(count\\(4\\)|TAPE).*");
        CHECK.stays(EMPTY, "text()", -100);
        CHECK.due(fed(new AloneTogether(), "?"), "text()", -100);
        CHECK.due(fed(new AloneTogether(), FITS + "?"), "text()", -123);
        CHECK.due(fed(new AloneTogether(), " ".repeat(160)), "text()", -260);
        AloneTogether x = Houses.three();
        CHECK.due(x, "text()", -109);
        CHECK.due(x, "count(4)", 0);
        CHECK.due(x, "count(2)", 2);
        CHECK.due(x, "force(2)", -2);
        CHECK.due("the next TEXT", Check.text(x, FITS), 2);
    }

    /** What stood ahead of a FAULT is no part of the next TEXT, however long both are. */
    private static void textBehindAFault() {
        CHECK.of("Promise 5: THE TAPE, which is empty then (by a FAULT, too)");
        AloneTogether x = new AloneTogether();
        x.man(0);
        for (int i = 0; i < 3; i++) CHECK.due("a long FAULT", Check.text(x, "counts 1" + "+1".repeat(72) + ";"), -253);
        CHECK.due("a long TEXT", Check.text(x, "counts 1" + "+1".repeat(60) + ";pays 7;sees 8;"), 1);
        x.force(1);
        int[] due = {61, 7, 8};
        for (int part = 0; part < 3; part++) CHECK.due(x, "asks(" + part + ", 0, 0)", due[part]);
    }

    private static AloneTogether sixTexts(String tape) {
        AloneTogether x = new AloneTogether();
        for (int t = 1; t < 6; t++) Check.text(x, FITS);
        Check.feed(x, tape);
        return x;
    }

    private static void textFull() {
        CHECK.of("Promise 5: FULL (ahead of the FAULT; then THE TAPE stays)");
        for (String tape : new String[] {"", "?", FITS, "counts 3;pa"}) {
            CHECK.stays(() -> sixTexts(tape), "text()", -4);
            AloneTogether x = sixTexts(tape);
            CHECK.due(x, "text()", -4);
            CHECK.due(x, "count(4)", tape.length());
        }
        CHECK.stays(FULL, "text()", -4);
    }

    private static void force() {
        CHECK.of("Promise 6: A TEXT is THE LAW: which was. BAD");
        String told = "(count\\(3\\)|hour|asks).*";
        CHECK.changesOnly(THREE, "force(0)", 1, told);
        CHECK.changesOnly(THREE, "force(1)", 1, told);
        CHECK.changesOnly(FULL, "force(0)", 5, told);
        CHECK.changesOnly(FULL, "force(5)", 5, told);
        for (String t : new String[] {"-1", "2", "5", "6", "MIN", "MAX"}) CHECK.stays(THREE, "force(" + t + ")", -2);
        for (String t : new String[] {"-1", "6", "MIN", "MAX"}) CHECK.stays(FULL, "force(" + t + ")", -2);
        CHECK.stays(EMPTY, "force(0)", 0);
        CHECK.stays(EMPTY, "force(1)", -2);
        AloneTogether x = Houses.full();
        CHECK.due(x, "force(3)", 5);
        CHECK.due(x, "count(3)", 3);
        CHECK.due(x, "force(0)", 3);
    }

    private static void asks() {
        CHECK.of("Promise 7: What part 0 counts, 1 pays, 2 sees says of a MAN in an HOUR. BAD");
        // counts mine + his; pays more + watched + 1; sees 10 * hour + (term = 77).
        int[][] due = {{2, 0, 5, 0}, {5, 5, 4, 4}, {1, 100, 0, 100}};
        for (int part = 0; part < 3; part++) {
            CHECK.stays(THREE, "asks(" + part + ", 0, 0)", due[part][0]);
            CHECK.stays(THREE, "asks(" + part + ", 0, 11)", due[part][1]);
            CHECK.stays(THREE, "asks(" + part + ", 2, 0)", due[part][2]);
            CHECK.stays(THREE, "asks(" + part + ", 2, 11)", due[part][3]);
        }
        for (String wrong : new String[] {"-1", "3", "MIN", "MAX"}) {
            CHECK.stays(THREE, "asks(" + wrong + ", 0, 0)", -2);
            CHECK.stays(THREE, "asks(0, " + wrong + ", 0)", -2);
        }
        for (String h : new String[] {"-1", "12", "MIN", "MAX"}) CHECK.stays(THREE, "asks(0, 0, " + h + ")", -2);
        CHECK.stays(EMPTY, "asks(0, 0, 0)", -2);
        CHECK.stays(FULL, "asks(0, 6, 0)", -2);
    }

    private static void man() {
        CHECK.of("Promise 8: A MAN (kindMore: 10 times KIND, and MORE): his number. BAD");
        String newMan = "(count\\(0\\)|told\\(3,|told\\(2, 16\\)|hour\\([23],|asks\\(., [23],).*";
        CHECK.changesOnly(THREE, "man(0)", 3, newMan);
        CHECK.changesOnly(THREE, "man(59)", 3, newMan);
        for (String kindMore : new String[] {"-1", "60", "99", "MIN", "MAX"}) CHECK.stays(THREE, "man(" + kindMore + ")", -2);
        AloneTogether x = new AloneTogether();
        int[] kindMores = {0, 9, 10, 49, 50, 59};
        for (int m = 0; m < 6; m++) {
            CHECK.due(x, "man(" + kindMores[m] + ")", m);
            CHECK.due(x, "told(" + m + ", 13)", kindMores[m] / 10);
            CHECK.due(x, "told(" + m + ", 14)", kindMores[m] % 10);
        }
    }

    private static void manFull() {
        CHECK.of("Promise 8: FULL");
        CHECK.stays(FULL, "man(0)", -4);
        CHECK.stays(FULL, "man(59)", -4);
        AloneTogether x = Houses.full();
        x.back();
        CHECK.due(x, "man(33)", 5);
        CHECK.due(x, "man(33)", -4);
    }

    private static void putWhat() {
        CHECK.of("Promise 9: His DOING in HOUR what (0 .. 11), TERM (12) becomes v: what it was; -7: what");
        CHECK.changesOnly(THREE, "put(0, 0, 0)", 1, "(told\\(0, 0\\)|hour\\([01], 0,|asks\\(0, [01], 0\\)|TEXT|TAPE).*");
        CHECK.changesOnly(THREE, "put(0, 11, 3)", 0, "(told\\(0, 11\\)|hour\\([01], 11,|asks\\(0, [01], 11\\)|TEXT|TAPE).*");
        CHECK.changesOnly(THREE, "put(0, 12, 78)", 77, "(told\\(0, 12\\)|asks\\(2, 0,|TEXT).*");
        for (String what : new String[] {"-1", "13", "16", "MIN", "MAX"}) CHECK.stays(THREE, "put(0, " + what + ", 0)", -7);
        AloneTogether x = Houses.three();
        for (int what = 0; what < 13; what++) {
            int was = x.told(1, what);
            CHECK.due(x, "put(1, " + what + ", 2)", was);
            CHECK.due(x, "told(1, " + what + ")", 2);
        }
    }

    private static void putDoing() {
        CHECK.of("Promise 9: -7: v, of a DOING (0 .. 5)");
        AloneTogether x = new AloneTogether();
        x.man(0);
        for (int h = 0; h < 12; h += 11) {
            for (String v : new String[] {"-1", "6", "9999", "MIN", "MAX"}) CHECK.stays(THREE, "put(0, " + h + ", " + v + ")", -7);
            CHECK.due(x, "put(0, " + h + ", 5)", 0);
            CHECK.due(x, "put(0, " + h + ", 0)", 5);
            CHECK.due(x, "told(0, " + h + ")", 0);
        }
    }

    private static void putTerm() {
        CHECK.of("Promise 9: -7: v, of a TERM (0 .. 9999)");
        for (String v : new String[] {"-1", "10000", "MIN", "MAX"}) CHECK.stays(THREE, "put(0, 12, " + v + ")", -7);
        AloneTogether x = new AloneTogether();
        x.man(0);
        int[] terms = {9999, 0, 6, 5};
        for (int i = 0; i < 4; i++) {
            CHECK.due(x, "put(0, 12, " + terms[i] + ")", i == 0 ? 0 : terms[i - 1]);
            CHECK.due(x, "told(0, 12)", terms[i]);
        }
    }

    private static void putMan() {
        CHECK.of("Promise 9: -5: no such MAN");
        for (String m : new String[] {"-1", "3", "MIN", "MAX"}) CHECK.stays(THREE, "put(" + m + ", 0, 0)", -5);
        CHECK.stays(EMPTY, "put(0, 0, 0)", -5);
        CHECK.stays(FULL, "put(6, 0, 0)", -5);
        CHECK.due(Houses.full(), "put(5, 12, 1)", 9999);
    }

    private static void told() {
        CHECK.of("Promise 10: HOUR what (0 .. 11), 12 TERM, 13 KIND, 14 MORE, 15 the PLACE, 16 the MATE. -5; -7: what");
        int[] due = {0, 1, 2, 3, 4, 5, 0, 1, 2, 3, 4, 5, 9000, 3, 4, 0, 0};
        for (int what = 0; what < 17; what++) CHECK.stays(THREE, "told(1, " + what + ")", due[what]);
        for (String what : new String[] {"-1", "17", "MIN", "MAX"}) CHECK.stays(THREE, "told(1, " + what + ")", -7);
        for (String m : new String[] {"-1", "3", "MIN", "MAX"}) CHECK.stays(THREE, "told(" + m + ", 0)", -5);
        CHECK.stays(EMPTY, "told(0, 0)", -5);
        CHECK.stays(FULL, "told(6, 0)", -5);
    }

    private static void toldMate() {
        CHECK.of("Promise 10: 16 the MATE (-1: nobody)");
        CHECK.stays(THREE, "told(0, 16)", 1);
        CHECK.stays(THREE, "told(2, 16)", -1);
        int[] mates = {4, 5, 3, 2, 0, 1};
        AloneTogether x = new AloneTogether();
        for (int m = 0; m < 6; m++) x.man(0);
        x.move(0, 5);
        for (int m = 0; m < 6; m++) CHECK.due(x, "told(" + m + ", 16)", mates[m]);
    }

    private static void move() {
        CHECK.of("Promise 11: Two MEN (or one and the same) change PLACES: the first one's PLACE then. -5: no such MEN");
        String lie = "(told\\([02], 1[56]\\)|told\\(1, 16\\)|hour|asks|TEXT|TAPE).*";
        CHECK.changesOnly(THREE, "move(0, 2)", 2, lie);
        CHECK.changesOnly(THREE, "move(2, 0)", 1, lie);
        for (int m = 0; m < 3; m++) CHECK.stays(THREE, "move(" + m + ", " + m + ")", new int[] {1, 0, 2}[m]);
        for (String m : new String[] {"-1", "3", "6", "MIN", "MAX"}) {
            CHECK.stays(THREE, "move(" + m + ", 0)", -5);
            CHECK.stays(THREE, "move(0, " + m + ")", -5);
            CHECK.stays(THREE, "move(" + m + ", " + m + ")", -5);
        }
        CHECK.stays(EMPTY, "move(0, 0)", -5);
        CHECK.stays(FULL, "move(5, 6)", -5);
        AloneTogether x = Houses.full();
        CHECK.due(x, "move(5, 4)", 4);
        CHECK.due(x, "told(5, 15)", 4);
        CHECK.due(x, "told(4, 15)", 0);
    }
}
