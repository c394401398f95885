/** Promises 1 to 11: the law, men. */
public final class LawAndMenTest {
    private static final Check CHECK = new Check("LawAndMenTest");

    public static void main(String[] args) {
        newObject();
        count();
        watches();
        feed();
        textNumbers();
        textFull();
        textFaults();
        textsThatStand();
        force();
        asks();
        asksBounds();
        asksWrong();
        man();
        put();
        told();
        move();
        CHECK.end();
    }

    private static void newObject() {
        AloneTogether x = new AloneTogether();
        CHECK.due("new: MEN", x.count(0), 0);
        CHECK.due("new: WATCHED", x.count(1), 0);
        CHECK.due("new: told", x.told(0, 13), -5);
        CHECK.due("new: taken(6, 6)", x.taken(6, 6), 0);
        CHECK.due("new: back", x.back(), -3);
        for (int s = 0; s < 4; s++) CHECK.due("new: cell", x.cell(s, 0, 0), -11);
        x.man(0);
        CHECK.due("new: counts", x.asks(0, 0, 0), 0);
        CHECK.due("new: pays", x.asks(1, 0, 0), 9);
        CHECK.due("new: sees", x.asks(2, 0, 0), 20);
    }

    private static void count() {
        AloneTogether x = new AloneTogether();
        x.man(11);
        x.man(12);
        x.watches(33);
        Check.law(x, "1", "2", "3");
        Check.feed(x, "abc");
        CHECK.due("count(0)", x.count(0), 2);
        CHECK.due("count(1)", x.count(1), 33);
        CHECK.due("count(2)", x.count(2), 2);
        CHECK.due("count(3)", x.count(3), 1);
        CHECK.due("count(4)", x.count(4), 3);
        CHECK.due("count(-1)", x.count(-1), -2);
        CHECK.due("count(5)", x.count(5), -2);
    }

    private static void watches() {
        AloneTogether x = new AloneTogether();
        CHECK.due("watches(4095)", x.watches(4095), 0);
        CHECK.due("watches(4096)", x.watches(4096), -2);
        CHECK.due("watches(-1)", x.watches(-1), -2);
        CHECK.due("watches(1)", x.watches(1), 4095);
        CHECK.due("watches(0)", x.watches(0), 1);
        CHECK.due("count(1)", x.count(1), 0);
    }

    private static void feed() {
        AloneTogether x = new AloneTogether();
        CHECK.due("feed 0", x.feed(0, 1, 1, 1, 1, 1), -2);
        CHECK.due("feed 6", x.feed(6, 1, 1, 1, 1, 1), -2);
        CHECK.due("feed a", x.feed(1, 256, 1, 1, 1, 1), -2);
        CHECK.due("feed b", x.feed(1, 1, -1, 1, 1, 1), -2);
        CHECK.due("feed c", x.feed(1, 1, 1, 256, 1, 1), -2);
        CHECK.due("feed d", x.feed(1, 1, 1, 1, -1, 1), -2);
        CHECK.due("feed e", x.feed(1, 1, 1, 1, 1, 256), -2);
        for (int i = 1; i <= 31; i++) CHECK.due("feed 5", x.feed(5, 0, 255, 1, 2, 3), 5 * i);
        CHECK.due("feed 3", x.feed(3, 1, 2, 3, 4, 5), 158);
        CHECK.due("feed over", x.feed(3, 1, 2, 3, 4, 5), -4);
        CHECK.due("feed over, none came", x.count(4), 158);
        CHECK.due("feed wrong and over", x.feed(5, 1, 2, 3, 4, 256), -2);
        CHECK.due("feed 2", x.feed(2, 1, 2, 3, 4, 5), 160);
        CHECK.due("feed at the end", x.feed(1, 1, 2, 3, 4, 5), -4);
        AloneTogether y = new AloneTogether();
        y.feed(5, 'c', 'o', 'u', 'n', 't');
        y.feed(4, 's', ' ', '1', ';', '?');
        CHECK.due("only the first n come, in their order", y.text(), -109);
    }

    private static void textNumbers() {
        AloneTogether x = new AloneTogether();
        CHECK.due("an empty tape", x.text(), -100);
        CHECK.due("text 1", Check.text(x, "counts 1;pays 2;sees 3;"), 1);
        CHECK.due("the tape is empty", x.count(4), 0);
        CHECK.due("a fault", Check.text(x, "counts 1;pays 2;sees 3"), -122);
        CHECK.due("the tape is empty by a fault", x.count(4), 0);
        CHECK.due("a fault is no text", x.count(2), 2);
        CHECK.due("text 2", Check.text(x, "counts 4;pays 5;sees 6;"), 2);
        CHECK.due("a text is not the law yet", x.count(3), 0);
        for (int i = 0; i < 2; i++) CHECK.due("long faults", Check.text(x, "counts 1" + "+1".repeat(70) + ";"), -249);
        CHECK.due("text 3", Check.text(x, "counts 7;pays 8;sees 9;"), 3);
        x.man(0);
        x.force(1);
        CHECK.due("text 1 says", x.asks(0, 0, 0) * 100 + x.asks(1, 0, 0) * 10 + x.asks(2, 0, 0), 123);
        x.force(2);
        CHECK.due("text 2 says", x.asks(0, 0, 0) * 100 + x.asks(1, 0, 0) * 10 + x.asks(2, 0, 0), 456);
        x.force(3);
        CHECK.due("text 3 says", x.asks(0, 0, 0) * 100 + x.asks(1, 0, 0) * 10 + x.asks(2, 0, 0), 789);
    }

    private static void textFull() {
        AloneTogether x = new AloneTogether();
        for (int t = 1; t < 6; t++) CHECK.due("text", Check.text(x, "counts " + t + ";pays 2;sees 3;"), t);
        Check.feed(x, "never");
        CHECK.due("a seventh, ahead of its fault", x.text(), -4);
        CHECK.due("the tape stays", x.count(4), 5);
        CHECK.due("texts", x.count(2), 6);
    }

    private static void fault(String bytes, int place) {
        AloneTogether x = new AloneTogether();
        CHECK.due("text of " + bytes, Check.text(x, bytes), -100 - place);
    }

    private static void stands(String bytes) {
        CHECK.due("text of " + bytes, Check.text(new AloneTogether(), bytes), 1);
    }

    private static void textFaults() {
        fault("counts", 6);
        fault("counts  ", 8);
        fault("  counts ", 9);
        fault("pays 1;", 0);
        fault("  mine", 2);
        fault("counts 1;sees 1;", 9);
        fault("counts 1;counts 1;", 9);
        fault("counts 1;pays 1;pays 1;", 16);
        fault("counts 1;pays 1;sees 1", 22);
        fault("counts 1;pays 1;sees 1;;", 23);
        fault("counts 1;pays 1;sees 1; counts", 24);
        fault("counts 1;pays 1;sees 1;?", 23);
        fault("counts 1;pays 1;sees 1;12345", 23);
        fault("counts 1;pays 1;sees 1; none", 24);
        fault("counts 12345;", 7);
        fault("counts 1+00001;", 9);
        fault("counts 1 2;", 9);
        fault("counts 1\t;", 8);
        fault("counts 1\r;", 8);
        fault("counts Mine;", 7);
        fault("counts mines;", 7);
        fault("counts min;", 7);
        fault("countsmine;", 0);
        fault("counts mine2;", 11);
        fault("counts 2mine;", 8);
        fault("counts m_ine;", 7);
        fault("counts (none);", 8);
        fault("counts -none;", 8);
        fault("counts not none;", 11);
        fault("counts 1 + none;", 11);
        fault("counts pays;", 7);
        fault("counts or 1;", 7);
        fault("counts mine ! ;", 12);
        fault("counts mine, his;", 11);
        fault("counts " + (char) 255, 7);
        fault("counts " + (char) 0, 7);
        fault("counts 1<2<3;", 10);
        fault("counts 1=2<3;", 10);
        fault("counts 1<=2;", 9);
        fault("counts 1<not 2;", 9);
        fault("counts 1+not 2;", 9);
        fault("counts -not 2;", 8);
        fault("counts 1 or;", 11);
        fault("counts 1 and;", 12);
        fault("counts not;", 10);
        fault("counts 1 not 2;", 9);
        fault("counts 1*;", 9);
        fault("counts *1;", 7);
        fault("counts +1;", 7);
        fault("counts 1;;", 9);
        fault("counts;", 6);
        fault("counts (1;", 9);
        fault("counts 1);", 8);
        fault("counts ();", 8);
        fault("counts ((((((1))))));", 12);
        fault("counts ------1;", 12);
        fault("counts not not not not not not 1;", 27);
        fault("counts (not (-(not 1", 15);
        fault("counts (((((1 - -2)))))", 16);
        fault("counts (((((1 - (2", 16);
        fault("counts (((((not 1", 12);
        fault("counts ((((( ?", 13);
        fault("counts 1;pays 1;sees ((((((1", 26);
    }

    private static void textsThatStand() {
        stands("counts 1;pays 1;sees 1;");
        stands("\n counts\n1 ;pays 1 ;sees 1 ;\n ");
        stands("counts 9999;pays 0000;sees 0;");
        stands("counts mine*his;pays term+more;sees hour-watched;");
        stands("counts not 1<2;pays not not 1;sees 1 or 2 and 3;");
        stands("counts (((((1)))));pays -----1;sees not not not not not 1;");
        stands("counts (((((1 - 2)))))*(((((2)))));pays 1;sees 1;");
        stands("counts not 1 and not 1 or not 1 and not 1 and not 1 and not 1;pays 1;sees 1;");
        stands("counts -1 - -1 - -1 - -1 - -1 - -1*-1;pays 1;sees 1;");
        stands("counts (1<2)<(3=4);pays 2-(not 1);sees 1<2 and 3<4;");
        StringBuilder longest = new StringBuilder("counts 1");
        while (longest.length() < 144) longest.append("+1");
        longest.append(";pays 1;sees 1; ");
        CHECK.due("160 bytes", longest.length(), 160);
        stands(longest.toString());
    }

    private static void force() {
        AloneTogether x = new AloneTogether();
        CHECK.due("force(1)", x.force(1), -2);
        CHECK.due("force(-1)", x.force(-1), -2);
        CHECK.due("force(0)", x.force(0), 0);
        Check.text(x, "counts 1;pays 2;sees 3;");
        CHECK.due("force(1)", x.force(1), 0);
        CHECK.due("count(3)", x.count(3), 1);
        CHECK.due("force(2)", x.force(2), -2);
        CHECK.due("force(0)", x.force(0), 1);
    }

    /** What is counted by a TEXT, of man 0: MUTE, MORE 7, TERM 300, who does 2 in HOUR 3, his MATE 5. */
    private static void counted(String counts, int want) {
        AloneTogether x = new AloneTogether();
        x.man(37);
        x.man(0);
        x.put(0, 3, 2);
        x.put(1, 3, 5);
        x.put(0, 12, 300);
        x.watches(8);
        Check.law(x, counts, "0", "0");
        CHECK.due("counts " + counts, x.asks(0, 0, 3), want);
    }

    private static void asks() {
        counted("mine", 2);
        counted("his", 5);
        counted("hour", 3);
        counted("term - 290", 10);
        counted("more", 7);
        counted("watched", 1);
        counted("2+3*4", 14);
        counted("(2+3)*4", 20);
        counted("9-2-1", 6);
        counted("9-(2-1)", 8);
        counted("20--3", 23);
        counted("- -6", 6);
        counted("-2*-3", 6);
        counted("3 or 0", 1);
        counted("0 or 0", 0);
        counted("0 or 7", 1);
        counted("2 and 4", 1);
        counted("2 and 0", 0);
        counted("1 or 0 and 0", 1);
        counted("(1 or 0) and 0", 0);
        counted("not 0", 1);
        counted("not 9", 0);
        counted("not 1 = 2", 1);
        counted("not 0 and 0", 0);
        counted("5+(not 0)", 6);
        counted("1<2", 1);
        counted("2<2", 0);
        counted("-1<0", 1);
        counted("2=2", 1);
        counted("1+1=2*1", 1);
        counted("5", 5);
        counted("0009", 9);
        // As much as can wait for what comes behind it: five to each of six levels.
        String level = "0 or 1 and 0<0+1*(";
        counted(level.repeat(5) + "0 or 1 and 0<0+1*5" + ")".repeat(5), 1);
        counted(level.repeat(5) + "0 or 1 and 0<0+1*0" + ")".repeat(5), 0);
        counted("4096*4096*256 + 7", 7);
        counted("4096*4096*128 < 0", 1);
        counted("0 < 4096*4096*128 - 1", 1);
        counted("-(4096*4096*128) < 0", 1);
    }

    private static void asksBounds() {
        AloneTogether x = new AloneTogether();
        x.man(0);
        Check.law(x, "99", "99", "100");
        CHECK.due("counts 99", x.asks(0, 0, 0), 99);
        CHECK.due("pays 99", x.asks(1, 0, 0), 99);
        CHECK.due("sees 100", x.asks(2, 0, 0), 100);
        Check.law(x, "100", "9999", "101");
        CHECK.due("counts 100", x.asks(0, 0, 0), 99);
        CHECK.due("pays 9999", x.asks(1, 0, 0), 99);
        CHECK.due("sees 101", x.asks(2, 0, 0), 100);
        Check.law(x, "-1", "0-9999*9999", "-1");
        CHECK.due("counts -1", x.asks(0, 0, 0), 0);
        CHECK.due("pays below 0", x.asks(1, 0, 0), 0);
        CHECK.due("sees -1", x.asks(2, 0, 0), 0);
    }

    private static void asksWrong() {
        AloneTogether x = new AloneTogether();
        CHECK.due("asks of nobody", x.asks(0, 0, 0), -2);
        x.man(0);
        CHECK.due("asks(-1, 0, 0)", x.asks(-1, 0, 0), -2);
        CHECK.due("asks(3, 0, 0)", x.asks(3, 0, 0), -2);
        CHECK.due("asks(0, 1, 0)", x.asks(0, 1, 0), -2);
        CHECK.due("asks(0, -1, 0)", x.asks(0, -1, 0), -2);
        CHECK.due("asks(0, 0, 12)", x.asks(0, 0, 12), -2);
        CHECK.due("asks(0, 0, -1)", x.asks(0, 0, -1), -2);
        Check.law(x, "his+7", "watched+3", "mine+hour");
        CHECK.due("his without a mate", x.asks(0, 0, 11), 7);
        CHECK.due("not watched", x.asks(1, 0, 11), 3);
        CHECK.due("sees in hour 11", x.asks(2, 0, 11), 11);
    }

    private static void man() {
        AloneTogether x = new AloneTogether();
        CHECK.due("man(-1)", x.man(-1), -2);
        CHECK.due("man(60)", x.man(60), -2);
        int[] comes = {59, 0, 48, 37, 26, 15};
        for (int m = 0; m < 6; m++) CHECK.due("man", x.man(comes[m]), m);
        CHECK.due("a seventh", x.man(0), -4);
        CHECK.due("a wrong seventh", x.man(60), -2);
        for (int m = 0; m < 6; m++) {
            CHECK.due("KIND", x.told(m, 13), comes[m] / 10);
            CHECK.due("MORE", x.told(m, 14), comes[m] % 10);
            CHECK.due("PLACE", x.told(m, 15), m);
            for (int what = 0; what < 13; what++) CHECK.due("as one comes", x.told(m, what), 0);
        }
    }

    private static void put() {
        AloneTogether x = new AloneTogether();
        x.man(0);
        CHECK.due("put", x.put(0, 0, 5), 0);
        CHECK.due("put again", x.put(0, 0, 3), 5);
        CHECK.due("put in 11", x.put(0, 11, 4), 0);
        CHECK.due("put TERM", x.put(0, 12, 9999), 0);
        CHECK.due("put TERM again", x.put(0, 12, 0), 9999);
        CHECK.due("put nobody", x.put(1, 13, 9), -5);
        CHECK.due("put -1", x.put(-1, 0, 0), -5);
        CHECK.due("put what -1", x.put(0, -1, 0), -7);
        CHECK.due("put what 13", x.put(0, 13, 0), -7);
        CHECK.due("put doing 6", x.put(0, 0, 6), -7);
        CHECK.due("put doing -1", x.put(0, 0, -1), -7);
        CHECK.due("put TERM -1", x.put(0, 12, -1), -7);
        CHECK.due("put TERM 10000", x.put(0, 12, 10000), -7);
        CHECK.due("told", x.told(0, 0) * 10000 + x.told(0, 11) * 10 + x.told(0, 12), 30040);
    }

    private static void told() {
        AloneTogether x = new AloneTogether();
        for (int m = 0; m < 5; m++) x.man(10 * m + 9 - m);
        x.put(2, 7, 4);
        x.put(2, 12, 123);
        CHECK.due("DOING", x.told(2, 7), 4);
        CHECK.due("TERM", x.told(2, 12), 123);
        CHECK.due("KIND", x.told(2, 13), 2);
        CHECK.due("MORE", x.told(2, 14), 7);
        CHECK.due("PLACE", x.told(2, 15), 2);
        CHECK.due("MATE", x.told(2, 16), 3);
        CHECK.due("MATE of 3", x.told(3, 16), 2);
        CHECK.due("MATE of 4", x.told(4, 16), -1);
        CHECK.due("told nobody", x.told(5, 99), -5);
        CHECK.due("told -1", x.told(-1, 0), -5);
        CHECK.due("told what 17", x.told(0, 17), -7);
        CHECK.due("told what -1", x.told(0, -1), -7);
    }

    private static void move() {
        AloneTogether x = new AloneTogether();
        for (int m = 0; m < 3; m++) x.man(0);
        CHECK.due("move(0, 2)", x.move(0, 2), 2);
        CHECK.due("PLACE of 0", x.told(0, 15), 2);
        CHECK.due("PLACE of 2", x.told(2, 15), 0);
        CHECK.due("MATE of 0", x.told(0, 16), -1);
        CHECK.due("MATE of 1", x.told(1, 16), 2);
        CHECK.due("MATE of 2", x.told(2, 16), 1);
        CHECK.due("move(1, 1)", x.move(1, 1), 1);
        CHECK.due("move(1, 2)", x.move(1, 2), 0);
        CHECK.due("move(0, 3)", x.move(0, 3), -5);
        CHECK.due("move(3, 0)", x.move(3, 0), -5);
        CHECK.due("move(-1, -1)", x.move(-1, -1), -5);
        x.man(0);
        CHECK.due("one who comes is at the next", x.told(3, 15), 3);
        CHECK.due("and the MATE of who is at 2", x.told(3, 16), 0);
    }
}
