import java.util.List;
import java.util.function.Supplier;

/** "What is asked changes nothing, but where it is told": each call that asks, in houses told whole, and one behind the other. */
public final class AskedTest {
    private static final Check CHECK = new Check("AskedTest");
    private static final String[] ASKING = {"count(0)", "asks(0, 1, 3)", "told(1, 16)", "hour(1, 2, 1)", "day(1, 0)", "all()",
        "better(0, 0)", "better(1, 1)", "swap(0)", "swap(1)", "beds(0)", "beds(1)", "guard(3, 0)", "guard(2, 1)", "codes(0, 12)",
        "codes(2, 5)", "code(0, 9)", "code(2, 9)", "knows(0, 4)", "knows(1, 9)", "still(0)", "still(2)", "unseen(0, 8, 0)",
        "unseen(1, 8, 1)", "judge(0, 0)", "judge(0, 1)", "judge(2, 0)", "kinds(0, 0, 0)", "kinds(0, 0, 1)", "kinds(0, 0, 2)",
        "kinds(0, 1, 3)", "kinds(2, 0, 0)", "did(0, 0, 3)", "did(0, 1, 107)", "did(2, 2, 0)", "laws(0, 0)", "laws(2, 1)", "whose(0)",
        "whose(2)", "drawn(77, 5)", "drawn(99999, 10)", "odds(77, 40, 5, 30, 0)", "odds(99999, 40, 9, 60, 1)", "taken(1, 3)",
        "taken(9, 6)"};

    public static void main(String[] args) {
        for (Supplier<AloneTogether> house : List.<Supplier<AloneTogether>>of(Houses::empty, Houses::three, Houses::full)) {
            changesNothing(house);
            answersAlike(house);
        }
        CHECK.end();
    }

    private static void changesNothing(Supplier<AloneTogether> house) {
        CHECK.of("What is asked changes nothing, but where it is told");
        for (String call : ASKING) CHECK.stays(house, call, Calls.answer(house.get(), call));
    }

    /** Also what is asked next answers as if nothing had been asked. */
    private static void answersAlike(Supplier<AloneTogether> house) {
        CHECK.of("What is asked changes nothing");
        for (String call : ASKING) {
            long due = Calls.answer(house.get(), call);
            for (String ahead : ASKING) {
                AloneTogether x = house.get();
                Calls.answer(x, ahead);
                CHECK.due(call + " behind " + ahead, Calls.answer(x, call), due);
            }
        }
    }
}
