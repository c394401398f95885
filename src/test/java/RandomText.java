import java.util.Random;

/** An E made up by chance, rule by rule of the grammar, and what it says. */
final class RandomText {
    /** What an E says by its NAMES: mine his hour term more watched. */
    interface Said {
        int by(int[] names);
    }

    private static final String[] NAMES = {"mine", "his", "hour", "term", "more", "watched"};
    private static final int MOST_OPEN = 5;

    final String text;
    final Said said;

    private RandomText(String text, Said said) {
        this.text = text;
        this.said = said;
    }

    /** An E of at most so many bytes. */
    static RandomText of(Random chance, int bytes) {
        RandomText made = either(chance, MOST_OPEN);
        while (made.text.length() > bytes) made = either(chance, MOST_OPEN);
        return made;
    }

    private static boolean rarely(Random chance) {
        return chance.nextInt(4) == 0;
    }

    private static String blank(Random chance) {
        return new String[] {"", "", "", " ", "\n", "  "}[chance.nextInt(6)];
    }

    private static int truth(boolean is) {
        return is ? 1 : 0;
    }

    private static RandomText joined(Random chance, RandomText a, String sign, RandomText b, Said said) {
        boolean isWord = Character.isLetter(sign.charAt(0));
        String ahead = isWord ? " " : blank(chance), behind = isWord ? " " : blank(chance);
        return new RandomText(a.text + ahead + sign + behind + b.text, said);
    }

    private static RandomText either(Random chance, int room) {
        RandomText made = both(chance, room);
        while (rarely(chance)) {
            Said a = made.said;
            RandomText b = both(chance, room);
            made = joined(chance, made, "or", b, names -> truth(a.by(names) != 0 || b.said.by(names) != 0));
        }
        return made;
    }

    private static RandomText both(Random chance, int room) {
        RandomText made = negated(chance, room);
        while (rarely(chance)) {
            Said a = made.said;
            RandomText b = negated(chance, room);
            made = joined(chance, made, "and", b, names -> truth(a.by(names) != 0 && b.said.by(names) != 0));
        }
        return made;
    }

    private static RandomText negated(Random chance, int room) {
        if (room > 0 && rarely(chance)) {
            RandomText a = negated(chance, room - 1);
            return new RandomText("not " + a.text, names -> truth(a.said.by(names) == 0));
        }
        RandomText a = sum(chance, room);
        if (!rarely(chance)) return a;
        RandomText b = sum(chance, room);
        return chance.nextBoolean()
            ? joined(chance, a, "<", b, names -> truth(a.said.by(names) < b.said.by(names)))
            : joined(chance, a, "=", b, names -> truth(a.said.by(names) == b.said.by(names)));
    }

    private static RandomText sum(Random chance, int room) {
        RandomText made = product(chance, room);
        while (rarely(chance)) {
            Said a = made.said;
            RandomText b = product(chance, room);
            made = chance.nextBoolean()
                ? joined(chance, made, "+", b, names -> a.by(names) + b.said.by(names))
                : joined(chance, made, "-", b, names -> a.by(names) - b.said.by(names));
        }
        return made;
    }

    private static RandomText product(Random chance, int room) {
        RandomText made = one(chance, room);
        while (rarely(chance)) {
            Said a = made.said;
            RandomText b = one(chance, room);
            made = joined(chance, made, "*", b, names -> a.by(names) * b.said.by(names));
        }
        return made;
    }

    private static RandomText one(Random chance, int room) {
        switch (chance.nextInt(room > 0 ? 8 : 5)) {
            case 0: case 1:
                int v = chance.nextInt(rarely(chance) ? 10000 : 8);
                return new RandomText(Integer.toString(v), names -> v);
            case 2: case 3: case 4:
                int name = chance.nextInt(6);
                return new RandomText(NAMES[name], names -> names[name]);
            case 5:
                RandomText a = one(chance, room - 1);
                return new RandomText("-" + blank(chance) + a.text, names -> -a.said.by(names));
            default:
                RandomText b = either(chance, room - 1);
                return new RandomText("(" + blank(chance) + b.text + blank(chance) + ")", b.said);
        }
    }
}
