import java.util.ArrayList;
import java.util.List;

/** The edges that the sentences of "Terms" name of THE TAPE, TOKENS, TEXTS, their FAULTS and what they say. */
public final class TextEdgesTest {
    private static final Check CHECK = new Check("TextEdgesTest");
    private static final String FIRST = "counts mine * his ; pays 9 ; sees 20 ;";
    private static final String REST = ";pays 1;sees 1;";
    private static final String[] OPENERS = {"(", "not ", "-"};
    private static final int MOST_OPEN = 5;

    public static void main(String[] args) {
        bytesOfTheTape();
        faultAtTheEndOfTheTape();
        words();
        numbers();
        signs();
        asLongAsCanBe();
        blanks();
        bytesThatBeginNone();
        wordsThatAreNone();
        tooLongNumbers();
        parts();
        tooEarly();
        behindTheEnd();
        either();
        both();
        negated();
        compared();
        sums();
        terms();
        ones();
        fiveOpen();
        openTillClosed();
        openTillEnded();
        firstToken();
        names();
        wraps();
        truths();
        sixTexts();
        firstText();
        bounds();
        CHECK.end();
    }

    private static void stands(String text) {
        CHECK.due("room for " + text, text.length() <= 160 ? 1 : 0, 1);
        CHECK.due("text of " + text, Check.text(new AloneTogether(), text), 1);
    }

    private static void fault(String text, int place) {
        CHECK.due("room for " + text, text.length() <= 160 ? 1 : 0, 1);
        CHECK.due("text of " + text, Check.text(new AloneTogether(), text), -100 - place);
    }

    /** An E that stands as that which is counted, paid, seen. */
    private static void standsAsAnE(String e) {
        stands("counts " + e + REST);
        stands("counts 1;pays " + e + ";sees 1;");
        stands("counts 1;pays 1;sees " + e + ";");
    }

    /** An E with a FAULT at a place of its own. */
    private static void faultOfE(String e, int place) {
        fault("counts " + e + REST, 7 + place);
        fault("counts 1;pays " + e + ";sees 1;", 14 + place);
        fault("counts 1;pays 1;sees " + e + ";", 21 + place);
    }

    /** What an E says of man 0, who does 1 in HOUR 2, his MATE does 5; TERM 9999, MORE 9; WATCHED. */
    private static void says(String e, int due) {
        AloneTogether x = new AloneTogether();
        x.man(9);
        x.man(0);
        x.put(0, 2, 1);
        x.put(1, 2, 5);
        x.put(0, 12, 9999);
        x.watches(4);
        String[] laws = {"counts " + e + ";pays 3;sees 3;", "counts 3;pays " + e + ";sees 3;", "counts 3;pays 3;sees " + e + ";"};
        for (int part = 0; part < 3; part++) {
            CHECK.due("text of " + laws[part], Check.text(x, laws[part]), part + 1);
            x.force(part + 1);
            CHECK.due("part " + part + " of " + e, x.asks(part, 0, 2), due);
        }
    }

    private static void bytesOfTheTape() {
        CHECK.of("THE TAPE (160 bytes at most)");
        AloneTogether x = new AloneTogether();
        for (int i = 1; i <= 160; i++) CHECK.due(x, "feed(1, 32, 0, 0, 0, 0)", i);
        CHECK.due(x, "feed(1, 32, 0, 0, 0, 0)", -4);
        CHECK.due(x, "count(4)", 160);
        stands(FIRST + " ".repeat(160 - FIRST.length()));
        stands(" ".repeat(160 - FIRST.length()) + FIRST);
    }

    private static void faultAtTheEndOfTheTape() {
        CHECK.of("FAULT: the text's size, if it ends too early");
        fault(" ".repeat(160), 160);
        fault(" ".repeat(161 - FIRST.length()) + FIRST.substring(0, FIRST.length() - 1), 160);
        fault(" ".repeat(159) + "?", 159);
        fault(" ".repeat(159) + ";", 159);
        fault("a".repeat(160), 0);
        fault("1".repeat(160), 0);
        fault("counts " + "1".repeat(153), 7);
        fault("counts 1" + "+1".repeat(76), 160);
        fault("counts " + "1-".repeat(76) + "-", 160);
        // The sixth of the last ones that are open is the last byte.
        fault("counts " + "1*".repeat(72) + "1 -((((((", 159);
        fault("", 0);
    }

    private static void words() {
        CHECK.of("WORDS (as many letters a .. z as stand there)");
        // 96 and 123 stand beside a and z; A .. Z are no letters of a WORD.
        for (int stray : new int[] {96, 123, 'A', 'Z', '_', 225}) {
            faultOfE("mine" + (char) stray, 4);
            faultOfE((char) stray + "mine", 0);
        }
        faultOfE("minea", 0);
        faultOfE("minez", 0);
        faultOfE("amine", 0);
        faultOfE("zmine", 0);
    }

    private static void numbers() {
        CHECK.of("NUMBERS (as many digits as stand there; more than 4 are too long)");
        // 47 and 58 stand beside 0 and 9.
        for (int stray : new int[] {47, 58}) {
            faultOfE("1" + (char) stray, 1);
            faultOfE((char) stray + "1", 0);
        }
        for (int digit = 0; digit < 10; digit++) says("" + digit, digit);
        for (String number : new String[] {"0", "9", "0000", "9999", "00", "099"}) standsAsAnE(number);
        says("0009", 9);
        says("0010 - 9", 1);
        says("9999 - 9998", 1);
    }

    private static void signs() {
        CHECK.of("SIGNS ( ) ; + - * < =");
        says("(1)", 1);
        says("3+2", 5);
        says("3-2", 1);
        says("3*2", 6);
        says("2<3", 1);
        says("3=3", 1);
    }

    private static void asLongAsCanBe() {
        CHECK.of("TOKENS, each as long as can be");
        says("1or 0", 1);
        says("1or0", 1);
        says("0and 1", 0);
        says("not0", 1);
        says("mine+his", 6);
        says("mine=1and 2", 1);
        faultOfE("mineor 1", 0);
        faultOfE("1 ormine", 2);
        faultOfE("notmine", 0);
        faultOfE("mine2", 4);
        faultOfE("2mine", 1);
        fault("countsmine;pays 1;sees 1;", 0);
        stands("counts(1);pays-1;sees(1);");
        stands("counts1;pays1;sees1;");
    }

    private static void blanks() {
        CHECK.of("blanks (32, 10) may stand between");
        for (int blank : new int[] {32, 10}) {
            String b = "" + (char) blank;
            stands(FIRST.replace(" ", b));
            stands(FIRST.replace(" ", b + b));
            stands("counts" + b + "1" + b + ";" + b + "pays" + b + "1" + b + ";" + b + "sees" + b + "1" + b + ";");
            says("(" + b + "1" + b + ")" + b + "+" + b + "-" + b + "1" + b + "+" + b + "1", 1);
            faultOfE("mi" + b + "ne", 0);
            faultOfE("1" + b + "2", 2);
            fault("counts 1;pays 1;sees 1" + b, 23);
            fault(b, 1);
        }
        stands("counts 1;pays 1;sees 1;");
    }

    private static boolean isBlank(int b) {
        return b == 32 || b == 10;
    }

    private static void bytesThatBeginNone() {
        CHECK.of("FAULT: also of a byte that begins none");
        String signs = "();+-*<=";
        for (int b = 0; b < 256; b++) {
            char c = (char) b;
            boolean isDigit = c >= '0' && c <= '9';
            boolean joins = "+-*<=;".indexOf(c) >= 0;
            if (isBlank(b) || isDigit) stands("counts 1" + c + REST);
            else fault("counts 1" + c + REST, joins ? 9 : 8);
            if (isBlank(b)) stands(c + FIRST);
            else fault(c + FIRST, 0);
            if (isBlank(b)) stands(FIRST + c);
            else fault(FIRST + c, FIRST.length());
            if (signs.indexOf(c) < 0 && !isDigit && !isBlank(b)) faultOfE("(1*" + c + "1)", 3);
        }
    }

    private static void wordsThatAreNone() {
        CHECK.of("FAULT: of a WORD that is neither KEY nor NAME");
        String[] all = {"counts", "pays", "sees", "or", "and", "not", "mine", "his", "hour", "term", "more", "watched"};
        for (String word : all) {
            faultOfE("1 + " + word + "s", 4);
            faultOfE("1 + " + word.substring(1), 4);
            faultOfE("1 + " + word + word, 4);
            faultOfE("1 + " + word.toUpperCase(), 4);
        }
        // A KEY that can't stand there is a FAULT at the same place.
        for (int w = 0; w < 6; w++) faultOfE("1 + " + all[w], 4);
        for (int w = 6; w < 12; w++) standsAsAnE("1 + " + all[w]);
        fault("count 1" + REST, 0);
        fault("counts 1;pay 1;sees 1;", 9);
        fault("counts 1;pays 1;see 1;", 16);
    }

    private static void tooLongNumbers() {
        CHECK.of("FAULT: of a NUMBER that is too long");
        faultOfE("10000", 0);
        faultOfE("00000", 0);
        faultOfE("000001", 0);
        faultOfE("1+12345", 2);
        faultOfE("1 12345", 2);
        fault(FIRST + "12345", FIRST.length());
        fault("12345", 0);
    }

    private static void parts() {
        CHECK.of("TEXT: counts E ; pays E ; sees E ;");
        stands("counts 1;pays 1;sees 1;");
        fault("pays 1;counts 1;sees 1;", 0);
        fault("sees 1;pays 1;counts 1;", 0);
        fault("counts 1;sees 1;pays 1;", 9);
        fault("counts 1;counts 1;", 9);
        fault("counts 1;pays 1;pays 1;", 16);
        fault("counts 1 pays 1;sees 1;", 9);
        fault("counts 1;;pays 1;sees 1;", 9);
        fault("counts ;pays 1;sees 1;", 7);
        fault("counts 1;pays ;sees 1;", 14);
        fault("counts 1;pays 1;sees ;", 21);
        fault(";", 0);
        fault("1", 0);
    }

    /** Each beginning of a TEXT ends too early, but where a WORD is torn, that is none then. */
    private static void tooEarly() {
        CHECK.of("FAULT: (the text's size, if it ends too early)");
        String text = "counts not mine or hour and(-term<2);pays more*watched-1;sees 2 + his;";
        List<String> words = List.of("counts", "not", "mine", "or", "hour", "and", "term", "pays", "more", "watched", "sees", "his");
        for (int size = 0; size < text.length(); size++) {
            int from = size;
            while (from > 0 && Character.isLetter(text.charAt(from - 1))) from--;
            boolean isTorn = from < size && !words.contains(text.substring(from, size));
            fault(text.substring(0, size), isTorn ? from : size);
        }
        stands(text);
    }

    private static void behindTheEnd() {
        CHECK.of("FAULT: the first TOKEN that can't stand there: behind the last ;");
        String[] tokens = {"counts", "or", "not", "mine", "1", "(", ")", ";", "+", "-", "*", "<", "="};
        for (String token : tokens) fault(FIRST + " " + token, FIRST.length() + 1);
        fault(FIRST + FIRST, FIRST.length());
    }

    private static void either() {
        CHECK.of("E: AND { or AND }");
        standsAsAnE("1");
        standsAsAnE("1 or 1");
        stands("counts 1" + " or 1".repeat(27) + REST);
        faultOfE("or 1", 0);
        faultOfE("1 or", 4);
        faultOfE("1 or or 1", 5);
        says("0 or 0 or 0 or 7", 1);
    }

    private static void both() {
        CHECK.of("AND: NOT { and NOT }");
        standsAsAnE("1 and 1");
        stands("counts 1" + " and 1".repeat(22) + REST);
        faultOfE("and 1", 0);
        faultOfE("1 and", 5);
        faultOfE("1 and and 1", 6);
        faultOfE("1 and or 1", 6);
        says("0 and 0 or 1", 1);
        says("1 or 0 and 0", 1);
        says("7 and 7 and 7 and 0", 0);
    }

    private static void negated() {
        CHECK.of("NOT: not NOT, or SUM, perhaps < or = and a SUM");
        standsAsAnE("not 1");
        standsAsAnE("not 1 < 2");
        faultOfE("1 not 2", 2);
        faultOfE("1 + not 2", 4);
        faultOfE("1 * not 2", 4);
        faultOfE("1 < not 2", 4);
        faultOfE("1 = not 2", 4);
        faultOfE("- not 2", 2);
        faultOfE("not", 3);
        faultOfE("not or", 4);
        says("not 1 = 2", 1);
        says("not 0 + 1", 0);
        says("not not 7", 1);
    }

    private static void compared() {
        CHECK.of("NOT: SUM, perhaps < or = and a SUM");
        for (String sign : new String[] {"<", "="}) {
            standsAsAnE("1" + sign + "2");
            standsAsAnE("(1" + sign + "2)" + sign + "(1" + sign + "2)");
            standsAsAnE("1" + sign + "2 and 3" + sign + "4 or 5" + sign + "6");
            faultOfE("1" + sign + "2" + sign + "3", 3);
            faultOfE("1" + sign + "2<3", 3);
            faultOfE("1" + sign + "2=3", 3);
            faultOfE(sign + "2", 0);
            faultOfE("1" + sign, 2);
            faultOfE("1" + sign + "=2", 2);
        }
        says("1 + 1 = 4 - 2", 1);
        says("2 * 3 < 7", 1);
        says("7 < 2 * 3", 0);
        says("6 < 6", 0);
        says("6 = 7", 0);
    }

    private static void sums() {
        CHECK.of("SUM: TERM { + or - TERM }");
        stands("counts 1" + "+1".repeat(68) + REST);
        stands("counts 1" + "-1".repeat(68) + REST);
        faultOfE("+1", 0);
        faultOfE("1+", 2);
        faultOfE("1-", 2);
        faultOfE("1++1", 2);
        faultOfE("1-+1", 2);
        standsAsAnE("1+-1");
        standsAsAnE("1--1");
        says("9-4-3", 2);
        says("9-4+3", 8);
    }

    private static void terms() {
        CHECK.of("TERM: ONE { * ONE }");
        stands("counts 1" + "*1".repeat(68) + REST);
        faultOfE("*1", 0);
        faultOfE("1*", 2);
        faultOfE("1**1", 2);
        standsAsAnE("1*-1");
        says("1+2*3", 7);
        says("2*3+1", 7);
        says("2*2*2", 8);
        says("-2*-3", 6);
    }

    private static void ones() {
        CHECK.of("ONE: a NUMBER, a NAME, - ONE, ( E )");
        for (String one : new String[] {"1", "mine", "-1", "-mine", "-(1)", "(1)", "(not 1 or 1<1)"}) standsAsAnE(one);
        faultOfE("()", 1);
        faultOfE(")", 0);
        faultOfE("(1", 2);
        faultOfE("1)", 1);
        faultOfE("(1))", 3);
        faultOfE("((1)", 4);
        faultOfE("-", 1);
        faultOfE("-)", 1);
        faultOfE("-+1", 1);
    }

    /** Rows of so many ( not - that the rules let stand: a not stands ahead of a NOT, never behind a - . */
    private static List<List<String>> openers(int many) {
        List<List<String>> rows = new ArrayList<>();
        if (many == 0) rows.add(List.of());
        for (List<String> row : many == 0 ? List.<List<String>>of() : openers(many - 1)) {
            boolean behindMinus = many > 1 && row.get(many - 2).equals("-");
            for (String opener : OPENERS) {
                if (behindMinus && opener.equals("not ")) continue;
                List<String> longer = new ArrayList<>(row);
                longer.add(opener);
                rows.add(longer);
            }
        }
        return rows;
    }

    private static String closed(List<String> row, String inside) {
        StringBuilder closers = new StringBuilder();
        for (String opener : row) {
            if (opener.equals("(")) closers.append(")");
        }
        return String.join("", row) + inside + closers;
    }

    private static void fiveOpen() {
        CHECK.of("FAULT: a ( , a not, a - ahead of a ONE while 5 of these are open");
        for (int many = 1; many <= MOST_OPEN; many++) {
            for (List<String> row : openers(many)) standsAsAnE(closed(row, "1"));
        }
        for (List<String> row : openers(MOST_OPEN + 1)) {
            int place = String.join("", row.subList(0, MOST_OPEN)).length();
            faultOfE(closed(row, "1"), place);
            faultOfE(String.join("", row), place);
        }
        for (List<String> row : openers(MOST_OPEN)) {
            // What can't stand there is a FAULT at its own place, whatever is open.
            int size = String.join("", row).length();
            faultOfE(closed(row, "?"), size);
            boolean isClosedOnly = !row.get(MOST_OPEN - 1).equals("-");
            if (isClosedOnly) faultOfE(closed(row, "1 - 2 -(1"), size + 7);
        }
    }

    private static void openTillClosed() {
        CHECK.of("(a ( till its ) ");
        standsAsAnE("(1)*(1)*(1)*(1)*(1)*(((((1)))))");
        standsAsAnE("(((((1)))))+(((((1)))))");
        standsAsAnE("((((1))*(((1)))))");
        standsAsAnE("(1-2-3-4-5-6-7)-(((((1)))))");
        faultOfE("((1)*(((((1))))))", 9);
        faultOfE("((((1)))*(((((1)))))", 13);
    }

    private static void openTillEnded() {
        CHECK.of("not and - till what they belong to ends)");
        standsAsAnE("-1*-----1");
        standsAsAnE("-1 - -----1");
        standsAsAnE("-(1)*(((((1)))))");
        standsAsAnE("-----1*-----1");
        faultOfE("-(1*(((((1)))))", 7);
        faultOfE("-(1)*((((((1))))))", 10);
        standsAsAnE("not 1 and not not not not not 1");
        standsAsAnE("not 1 or (((((1)))))");
        standsAsAnE("not 1 * ----1");
        faultOfE("not 1 * -----1", 12);
        faultOfE("not 1 + -----1", 12);
        faultOfE("not 1 < -----1", 12);
        faultOfE("not 1 = (((((1)))))", 12);
        faultOfE("not 1 - 1 * 1 < 1 + (((((1)))))", 24);
    }

    private static void firstToken() {
        CHECK.of("FAULT: the place of the first byte of the first TOKEN that can't stand there");
        faultOfE("1 2 ? none 12345", 2);
        faultOfE("1 ? 2", 2);
        faultOfE("1 none 12345", 2);
        faultOfE("12345 none", 0);
        faultOfE("((((((?", 5);
        faultOfE("(((((?", 5);
    }

    private static void names() {
        CHECK.of("mine: his DOING; his: what the MATE's DOING SIGNS (0: he has none); hour; term: TERM; more: MORE; watched");
        AloneTogether x = new AloneTogether();
        x.man(9);
        x.man(10);
        x.man(0);
        x.put(0, 12, 9999);
        Check.doings(x, 0, 5, 0, 0, 0, 0, 0, 0, 0, 0, 0, 0, 5);
        Check.doings(x, 1, 0, 0, 0, 0, 0, 0, 0, 0, 0, 0, 0, 5);
        Check.law(x, "10 * mine + his", "10 * watched + hour + 50", "(term = 9999) * 10 + more");
        x.watches(2048);
        int[] due = {51, 50, 19, 55, 71, 19, 0, 50, 0, 0, 71, 0};
        for (int i = 0; i < 12; i++) {
            int m = i / 6 * 2, h = i / 3 % 2 * 11;
            CHECK.due(x, "asks(" + i % 3 + ", " + m + ", " + h + ")", due[i]);
        }
        CHECK.due(x, "put(0, 12, 0)", 9999);
        CHECK.due(x, "asks(2, 0, 0)", 9);
    }

    private static void wraps() {
        CHECK.of("An E is an int (32 bits, wrapping)");
        String most = "((4096*4096*64 - 1)*2 + 1)", least = "(4096*4096*128)";
        says("0 < " + most, 1);
        says(least + " < 0", 1);
        says(most + " + 1 = " + least, 1);
        says(most + " + 1 < 0", 1);
        says(least + " - 1 = " + most, 1);
        says("-" + least + " = " + least, 1);
        says(most + " * 2 + 2", 0);
        says(most + " * 2 + 3", 1);
        says(most + " * " + most, 1);
        says("4096*4096*256", 0);
        says("-" + most + " - 1 = " + least, 1);
        says(least + " < " + most, 1);
    }

    private static void truths() {
        CHECK.of("of or, and, not, <, = 1 or 0 (what is not 0 is true)");
        String[] untrue = {"0", "0000", "1-1", "4096*4096*256"}, isTrue = {"1", "7", "-1", "9999", "4096*4096*128"};
        for (String no : untrue) {
            says("not " + no, 1);
            says(no + " or " + no, 0);
            says("1 and " + no, 0);
            for (String yes : isTrue) {
                says(no + " or " + yes, 1);
                says(yes + " or " + no, 1);
                says(no + " and " + yes, 0);
                says(yes + " and " + no, 0);
            }
        }
        for (String yes : isTrue) {
            says("not " + yes, 0);
            says(yes + " and " + yes, 1);
            says(yes + " or " + yes, 1);
        }
        says("(2 and 3) + (2 or 3) + (not 0) + (2 < 3) + (2 = 2)", 5);
        for (String no : new String[] {"2 and 0", "0 and 2", "0 and 0", "0 or 0", "not 2", "3 < 2", "2 < 2", "2 = 3"}) {
            says("(" + no + ") + 50", 50);
        }
    }

    private static void sixTexts() {
        CHECK.of("TEXTS are numbered from 0 on, 6 at most");
        AloneTogether x = new AloneTogether();
        for (int t = 1; t <= 5; t++) {
            CHECK.due(x, "force(" + t + ")", -2);
            CHECK.due("text " + t, Check.text(x, FIRST), t);
            CHECK.due(x, "force(" + t + ")", t - 1);
            CHECK.due(x, "count(2)", t + 1);
        }
        CHECK.due("a seventh", Check.text(x, FIRST), -4);
        CHECK.due(x, "force(6)", -2);
        CHECK.due(x, "count(2)", 6);
    }

    private static void firstText() {
        CHECK.of("TEXT 0, at first, and THE LAW: counts mine * his ; pays 9 ; sees 20 ;");
        AloneTogether x = new AloneTogether();
        CHECK.due(x, "count(2)", 1);
        CHECK.due(x, "count(3)", 0);
        x.man(0);
        x.man(0);
        for (int mine = 0; mine < 6; mine++) {
            for (int his = 0; his < 6; his++) {
                x.put(0, 0, mine);
                x.put(1, 0, his);
                CHECK.due(x, "asks(0, 0, 0)", mine * his);
                CHECK.due(x, "asks(1, 0, 0)", 9);
                CHECK.due(x, "asks(2, 0, 0)", 20);
            }
        }
    }

    private static void bounds() {
        CHECK.of("(counts, pays 0 .. 99, sees 0 .. 100, else the bound)");
        String[] said = {"-9999", "-1", "0", "1", "99", "100", "101", "9999", "4096*4096*128", "4096*4096*128-1"};
        int[] due = {0, 0, 0, 1, 99, 99, 99, 99, 0, 99}, seen = {0, 0, 0, 1, 99, 100, 100, 100, 0, 100};
        for (int i = 0; i < said.length; i++) {
            AloneTogether x = new AloneTogether();
            x.man(0);
            Check.law(x, said[i], said[i], said[i]);
            CHECK.due("counts " + said[i], x.asks(0, 0, 0), due[i]);
            CHECK.due("pays " + said[i], x.asks(1, 0, 0), due[i]);
            CHECK.due("sees " + said[i], x.asks(2, 0, 0), seen[i]);
        }
    }
}
