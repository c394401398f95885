import java.util.Random;

/** TAPES made up by chance, most of them with a FAULT: the class reads each as Reading does, that goes another way. */
public final class ReadingTest {
    private static final Check CHECK = new Check("ReadingTest");
    private static final int TAPES = 40000, ROOM = 160;
    private static final String[] TOKENS = {"counts", "pays", "sees", "or", "and", "not", "mine", "his", "hour", "term", "more",
        "watched", "(", ")", ";", "+", "-", "*", "<", "=", "0", "7", "42", "9999", "(((", ")))", "---", "not not "};
    private static final String[] NO_TOKENS = {"?", "12345", "00000", "mines", "o", "A", "{", "`", "/", ":", "\t", "\r", "\u00e1", "\u0000"};

    public static void main(String[] args) {
        Random chance = new Random(20261119);
        int faults = 0;
        for (int i = 0; i < TAPES; i++) {
            String tape = tape(chance);
            Reading reading = new Reading(tape);
            AloneTogether x = new AloneTogether();
            CHECK.due("text of " + tape, Check.text(x, tape), reading.fault < 0 ? 1 : -100 - reading.fault);
            CHECK.due("bytes behind " + tape, x.count(4), 0);
            if (reading.fault < 0) says(reading, chance);
            else faults++;
        }
        CHECK.due("some tapes stand, some have a FAULT: " + faults, faults > TAPES / 4 && faults < TAPES * 3 / 4 ? 1 : 0, 1);
        CHECK.end();
    }

    private static void says(Reading reading, Random chance) {
        House house = House.random(chance);
        while (house.men == 0) house = House.random(chance);
        while (house.laws.size() > 1) house.laws.remove(1);
        house.law = 0;
        AloneTogether x = house.built();
        House.Law law = reading.law();
        house.laws.add(law);
        house.law = 1;
        Check.text(x, law.text);
        x.force(1);
        for (int i = 0; i < 6; i++) {
            int part = chance.nextInt(3), m = chance.nextInt(house.men), h = chance.nextInt(12);
            CHECK.due("asks(" + part + ", m, h) by " + law.text, x.asks(part, m, h), house.says(part, m, h));
        }
    }

    /** A TEXT that stands, as it is or with something otherwise. */
    static String tape(Random chance) {
        String counts = RandomText.of(chance, 45).text, pays = RandomText.of(chance, 45).text, sees = RandomText.of(chance, 35).text;
        String tape = "counts " + counts + ";pays " + pays + ";sees " + sees + ";";
        if (chance.nextInt(5) < 2) return tape;
        int changes = 1 + chance.nextInt(3);
        for (int i = 0; i < changes; i++) tape = changed(tape, chance);
        return tape.substring(0, Math.min(ROOM, tape.length()));
    }

    private static String changed(String tape, Random chance) {
        int at = chance.nextInt(tape.length() + 1), to = Math.min(tape.length(), at + 1 + chance.nextInt(3));
        String ahead = tape.substring(0, at), behind = tape.substring(to);
        switch (chance.nextInt(8)) {
            case 0: return ahead + behind;
            case 1: return ahead;
            case 2: return ahead + (char) chance.nextInt(256) + behind;
            case 3: return ahead + NO_TOKENS[chance.nextInt(NO_TOKENS.length)] + tape.substring(at);
            case 4: return ahead + " " + TOKENS[chance.nextInt(TOKENS.length)] + " " + behind;
            case 5: return ahead + TOKENS[12 + chance.nextInt(8)] + tape.substring(at);
            default: return ahead + TOKENS[chance.nextInt(TOKENS.length)] + tape.substring(at);
        }
    }
}
