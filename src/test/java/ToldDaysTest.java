/** Promises 25 to 30: told days. ThoughtTest asks the same of many houses, and compares with what comes of it. */
public final class ToldDaysTest {
    private static final Check CHECK = new Check("ToldDaysTest");

    public static void main(String[] args) {
        judge();
        refusals();
        kinds();
        did();
        laws();
        whose();
        film();
        CHECK.end();
    }

    /** COMPANY of man 0 (a MAN) is 0 0 6 25 0 .., of man 1 (a STILL, who minds half) 1 1 3 12 0 .. */
    private static AloneTogether two() {
        AloneTogether x = new AloneTogether();
        x.man(3);
        x.man(23);
        Check.doings(x, 0, 1, 2, 2, 5);
        Check.doings(x, 1, 2, 1, 3, 5);
        return x;
    }

    private static void judge() {
        AloneTogether x = two();
        for (int sort = 0; sort < 3; sort++) {
            Check.row(x, sort, sort, 0, 0, 6, 25);
            CHECK.due("judge, none", x.judge(sort, 0), -1);
            CHECK.due("judge of the other one", x.judge(sort, 1), 0);
            x.cell(sort, 3, 24);
            CHECK.due("judge, the last", x.judge(sort, 0), 3);
            x.cell(sort, 0, 1);
            CHECK.due("judge, the first", x.judge(sort, 0), 0);
        }
        Check.row(x, 3, 2, 0, 0, 6, 25, 0, 0, 0, 0, 0, 0, 0, 0);
        CHECK.due("judge, 12", x.judge(3, 0), -1);
        x.cell(3, 11, 1);
        CHECK.due("judge, the twelfth", x.judge(3, 0), 11);
        x.sheet(3, 2, 0);
        CHECK.due("judge, it tells nothing", x.judge(3, 0), -1);
    }

    /** Each refusal stands ahead of all those that come behind it. */
    private static void refusals() {
        AloneTogether x = two();
        x.sheet(1, 0, 13);
        x.sheet(2, 0, 12);
        int[] sheets = {-1, 4, 0, 1, 2};
        int[] due = {-2, -2, -11, -2, -5};
        for (int i = 0; i < 5; i++) {
            CHECK.due("judge", x.judge(sheets[i], 2), due[i]);
            CHECK.due("kinds", x.kinds(sheets[i], 2, 9), due[i]);
            CHECK.due("did", x.did(sheets[i], 2, 99), due[i]);
            CHECK.due("laws", x.laws(sheets[i], -1), due[i]);
            CHECK.due("whose", x.whose(sheets[i]), i == 4 ? 0 : due[i]);
        }
        x.man(0);
        int[] sorts = {-1, 0, 1, 2, 3, 4};
        int[] kinds = {-7, 63, 1023, -6, -6, -7};
        for (int i = 0; i < 6; i++) CHECK.due("kinds alone", x.kinds(2, 2, sorts[i]), kinds[i]);
        int[] hours = {-1, 0, 11, 12, 99, 100, 111, 112, Integer.MAX_VALUE, Integer.MIN_VALUE};
        int[] did = {-7, 63, 63, -7, -7, -6, -6, -7, -7, -7};
        for (int i = 0; i < 10; i++) CHECK.due("did alone", x.did(2, 2, hours[i]), did[i]);
    }

    private static void kinds() {
        AloneTogether x = two();
        Check.row(x, 0, 0, 0, 0, 6, 25);
        CHECK.due("KINDS", x.kinds(0, 0, 0), 0b100011);
        CHECK.due("MORE", x.kinds(0, 0, 1), 1023);
        CHECK.due("KINDS of the MATE", x.kinds(0, 0, 2), 0b010100);
        CHECK.due("MORE of the MATE", x.kinds(0, 0, 3), 1023);
        CHECK.due("kinds changes nothing", x.told(0, 13) * 10 + x.told(1, 13), 2);
        AloneTogether y = new AloneTogether();
        y.man(44);
        y.man(0);
        Check.law(y, "6", "1", "1");
        Check.row(y, 0, 0, 3, 3);
        CHECK.due("KINDS", y.kinds(0, 0, 0), 0b010100);
        CHECK.due("MORE of a LIFER", y.kinds(0, 0, 1), 0b0000111111);
        Check.law(y, "more", "1", "1");
        Check.row(y, 0, 0, 4);
        CHECK.due("MORE in the law", y.kinds(0, 1, 1), 0b0000010000);
        CHECK.due("MORE of the MATE isn't in it", y.kinds(0, 1, 3), 0);
    }

    private static void did() {
        AloneTogether x = two();
        Check.row(x, 0, 0, 0, 0, 6, 25);
        CHECK.due("did in 0", x.did(0, 0, 0), 0b111111);
        CHECK.due("did in 2", x.did(0, 0, 2), 0b000100);
        CHECK.due("did in 11", x.did(0, 0, 11), 0b111111);
        CHECK.due("the MATE in 0", x.did(0, 0, 100), 0b000111);
        CHECK.due("the MATE in 2", x.did(0, 0, 102), 0b001000);
        CHECK.due("the MATE in 11", x.did(0, 0, 111), 0b111111);
        x.cell(0, 2, 4);
        CHECK.due("none in 2", x.did(0, 0, 2), 0);
        x.cell(0, 2, 3);
        CHECK.due("another one in 2", x.did(0, 0, 2), 0b000010);
        CHECK.due("none in 3", x.did(0, 0, 3), 0);
        CHECK.due("did changes nothing", x.told(0, 2), 2);
    }

    private static void laws() {
        AloneTogether x = two();
        Check.text(x, "counts 25 * (hour = 3) + 6 * (hour = 2);pays 1;sees 1;");
        Check.text(x, "counts 1;pays 1;sees 1;");
        Check.text(x, "counts 25 * (hour = 3) + 6 * (hour = 2) + watched;pays 1;sees 1;");
        Check.row(x, 0, 0, 0, 0, 6, 25);
        CHECK.due("laws", x.laws(0, 0), 0b1011);
        CHECK.due("laws of the other one", x.laws(0, 1), 0);
        x.watches(1);
        CHECK.due("laws, watched", x.laws(0, 0), 0b0011);
        x.force(2);
        CHECK.due("laws, another law", x.laws(0, 0), 0b0011);
        CHECK.due("laws changes nothing", x.count(3), 2);
    }

    private static void whose() {
        AloneTogether x = two();
        x.man(0);
        x.sheet(0, 0, 0);
        CHECK.due("everybody's", x.whose(0), 0b111);
        Check.row(x, 0, 0, 0, 0);
        CHECK.due("whose", x.whose(0), 0b101);
        Check.row(x, 0, 0, 0, 0, 0);
        CHECK.due("whose", x.whose(0), 0b100);
        Check.row(x, 0, 0, 1, 1, 3);
        CHECK.due("whose", x.whose(0), 0b010);
        Check.row(x, 0, 0, 2);
        CHECK.due("nobody's", x.whose(0), 0);
        CHECK.due("whose of none", whoseOfNone(), 0);
    }

    private static int whoseOfNone() {
        AloneTogether x = new AloneTogether();
        x.sheet(0, 0, 0);
        return x.whose(0);
    }

    private static void film() {
        AloneTogether x = two();
        x.sheet(1, 2, 20);
        CHECK.due("film", x.film(1, 0, 4), 4);
        CHECK.due("film is judged", x.judge(1, 0), -1);
        CHECK.due("film has n numbers", x.cell(1, 4, 0), -12);
        CHECK.due("film is of shorts", x.menBy(1, 1, 0, 0), 0);
        CHECK.due("film tells COMPANY", x.menBy(1, 1, 2, 2), 2);
        CHECK.due("6", x.told(2, 13) * 10 + x.told(2, 14), 6);
        CHECK.due("25", x.told(3, 13) * 10 + x.told(3, 14), 25);
        CHECK.due("film of 0", x.film(2, 0, 0), 0);
        CHECK.due("film of 0 is a row", x.cell(2, 0, 0), -12);
        CHECK.due("film of 12", x.film(2, 0, 12), 12);
        CHECK.due("film on 4", x.film(4, 9, 13), -2);
        CHECK.due("film on -1", x.film(-1, 0, 0), -2);
        CHECK.due("film of nobody", x.film(3, 4, 13), -5);
        CHECK.due("film of 13", x.film(3, 0, 13), -7);
        CHECK.due("film of -1", x.film(3, 0, -1), -7);
        CHECK.due("refused, no film comes", x.cell(3, 0, 0), -11);
    }
}
