import java.util.function.Supplier;

/** "REFUSALS, of several the first one told": each two that can hold at once, in houses that are told whole. */
public final class FirstRefusalTest {
    private static final Check CHECK = new Check("FirstRefusalTest");
    private static final Supplier<AloneTogether> EMPTY = Houses::empty, THREE = Houses::three, FULL = Houses::full;

    public static void main(String[] args) {
        feed();
        text();
        man();
        put();
        ofAMan();
        told();
        day();
        judgeAndLaws();
        kinds();
        did();
        film();
        sheet();
        cell();
        copy();
        menBy();
        taken();
        CHECK.end();
    }

    private static void first(Supplier<AloneTogether> house, long due, String... calls) {
        for (String call : calls) CHECK.stays(house, call, due);
    }

    private static void feed() {
        CHECK.of("feed: BAD: n, any of the five; FULL");
        first(FULL, -2, "feed(0, 1, 1, 1, 1, 1)", "feed(6, 1, 1, 1, 1, 1)", "feed(MAX, 1, 1, 1, 1, 1)", "feed(5, 256, 1, 1, 1, 1)",
            "feed(5, 1, -1, 1, 1, 1)", "feed(5, 1, 1, 256, 1, 1)", "feed(5, 1, 1, 1, -1, 1)", "feed(1, 1, 1, 1, 1, 256)");
        first(FULL, -4, "feed(1, 1, 1, 1, 1, 1)");
    }

    private static void text() {
        CHECK.of("text: FULL (ahead of the FAULT)");
        first(FULL, -4, "text()");
    }

    private static void man() {
        CHECK.of("man: BAD; FULL");
        first(FULL, -2, "man(-1)", "man(60)");
        first(FULL, -4, "man(0)", "man(59)");
    }

    private static void put() {
        CHECK.of("put: -5: no such MAN; -7: what, v");
        first(THREE, -5, "put(3, 13, 0)", "put(3, -1, 0)", "put(-1, 0, 6)", "put(3, 12, 10000)", "put(3, 13, -1)");
        first(THREE, -7, "put(2, 13, 0)", "put(2, 0, 6)", "put(2, 13, -1)");
    }

    private static void told() {
        CHECK.of("told: -5: no such MAN; -7: what");
        first(THREE, -5, "told(3, 17)", "told(-1, -1)");
        first(EMPTY, -5, "told(0, 17)");
    }

    private static void ofAMan() {
        CHECK.of("hour, knows: -5: no such MAN; -7: HOUR");
        first(THREE, -5, "hour(3, 12, 0)", "hour(3, 0, 3)", "hour(-1, -1, -1)", "knows(3, 12)", "knows(-1, -1)");
        first(THREE, -7, "hour(0, 12, 3)", "knows(2, 12)", "hour(2, 12, 0)");
    }

    private static void day() {
        CHECK.of("day, better: -5: no such MAN; -7: what; code: -5; -7: n");
        first(THREE, -5, "day(3, 4)", "day(-1, -1)", "better(3, 2)", "better(-1, -1)", "code(3, 10)", "code(-1, -1)");
        first(THREE, -7, "day(2, 4)", "better(2, 2)", "code(2, 10)");
    }

    private static void judgeAndLaws() {
        CHECK.of("judge, laws: BAD: SHEET; -11; BAD: it tells more than 12; -5: no such MAN");
        for (String call : new String[] {"judge", "laws"}) {
            first(THREE, -2, call + "(4, 3)", call + "(-1, -1)", call + "(1, 3)", call + "(1, -1)");
            first(THREE, -11, call + "(3, 3)", call + "(3, -1)");
            first(THREE, -5, call + "(0, 3)");
        }
    }

    private static void kinds() {
        CHECK.of("kinds: BAD, -11, BAD, -5 likewise; -7: sort; -6: he has no MATE");
        first(THREE, -2, "kinds(4, 3, 4)", "kinds(-1, 0, -1)", "kinds(1, 3, 4)", "kinds(1, 0, -1)", "kinds(4, 2, 2)", "kinds(1, 2, 3)");
        first(THREE, -11, "kinds(3, 3, 4)", "kinds(3, 0, -1)", "kinds(3, 3, 0)", "kinds(3, 2, 2)");
        first(THREE, -5, "kinds(0, 3, 4)", "kinds(0, -1, -1)", "kinds(0, 3, 2)");
        first(THREE, -7, "kinds(0, 2, 4)", "kinds(0, 2, -1)");
        first(THREE, -6, "kinds(0, 2, 2)", "kinds(0, 2, 3)");
    }

    private static void did() {
        CHECK.of("did: BAD, -11, BAD, -5 likewise; -7: whoseHour; -6: it is of the MATE, and he has none");
        first(THREE, -2, "did(4, 3, 12)", "did(-1, 0, -1)", "did(1, 3, 112)", "did(1, 0, 12)", "did(4, 2, 100)", "did(1, 2, 100)");
        first(THREE, -11, "did(3, 3, 12)", "did(3, 0, -1)", "did(3, 3, 0)", "did(3, 2, 100)");
        first(THREE, -5, "did(0, 3, 12)", "did(0, -1, 112)", "did(0, 3, 100)");
        first(THREE, -7, "did(0, 2, 112)", "did(0, 2, 99)", "did(0, 2, MAX)");
        first(THREE, -6, "did(0, 2, 100)", "did(0, 2, 111)");
    }

    private static void film() {
        CHECK.of("film: BAD: SHEET; -5: no such MAN; -7: n");
        first(THREE, -2, "film(4, 3, 1)", "film(-1, 0, 13)", "film(4, 3, 13)");
        first(THREE, -5, "film(0, 3, 13)", "film(3, -1, -1)");
    }

    private static void sheet() {
        CHECK.of("sheet: BAD: SHEET, sort, n above 40; -14");
        first(THREE, -2, "sheet(4, 0, -1)", "sheet(-1, 0, MIN)", "sheet(0, 3, -1)", "sheet(0, -2, -1)", "sheet(4, -1, -1)");
        first(THREE, -14, "sheet(0, 0, -1)");
    }

    private static void cell() {
        CHECK.of("cell: BAD: SHEET; -11; -12");
        first(THREE, -2, "cell(4, -1, 0)", "cell(-1, 40, 0)");
        first(THREE, -11, "cell(3, -1, 0)", "cell(3, 40, 0)");
    }

    private static void copy() {
        CHECK.of("copy: BAD: SHEETS; -11; -13: unlike sorts; -12 (n below 0, too)");
        first(THREE, -2, "copy(4, 0, 3, 0, 1)", "copy(3, 0, 4, 0, 1)", "copy(0, -1, 4, 0, 1)", "copy(-1, 0, 0, 0, -1)", "copy(4, 0, 2, 0, 1)");
        first(THREE, -11, "copy(3, -1, 0, 0, 1)", "copy(0, -1, 3, 0, 1)", "copy(3, 0, 3, 0, -1)", "copy(2, 0, 3, 41, 1)");
        first(THREE, -13, "copy(0, -1, 2, 0, 1)", "copy(2, 0, 0, -1, 1)", "copy(1, 0, 2, 0, -1)", "copy(0, 0, 2, 0, 41)");
    }

    private static void menBy() {
        CHECK.of("menBy: BAD: SHEET, sort, n; -11; -13; -12");
        first(THREE, -2, "menBy(4, 0, 0, 1)", "menBy(3, 3, 0, 1)", "menBy(3, -1, 0, 1)", "menBy(3, 0, 0, 7)", "menBy(3, 0, 0, -1)",
            "menBy(2, 0, 0, 7)", "menBy(2, 2, -1, 7)", "menBy(4, 2, -1, 1)", "menBy(2, 3, 5, 1)");
        first(THREE, -11, "menBy(3, 0, -1, 1)", "menBy(3, 2, 41, 1)");
        first(THREE, -13, "menBy(2, 0, -1, 1)", "menBy(2, 1, 5, 1)");
        first(FULL, -12, "menBy(0, 0, 40, 1)", "menBy(0, 0, -1, 1)");
    }

    private static void taken() {
        CHECK.of("taken: BAD: kind; -12: i; -11: no such MAN; -13");
        first(THREE, -2, "taken(-1, 7)", "taken(18, -1)", "taken(3, 7)", "taken(6, 7)", "taken(0, -1)");
        first(THREE, -12, "taken(18, 6)", "taken(18, 0)", "taken(-1, 6)");
        first(THREE, -11, "taken(3, 6)", "taken(5, 6)", "taken(3, 5)");
        first(THREE, -13, "taken(2, 6)", "taken(2, 5)");
    }
}
