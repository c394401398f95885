import java.util.ArrayList;
import java.util.Collections;
import java.util.List;
import java.util.Random;

/** What the document says of HOURS and DAYS, written a second time in its plainest form: the class is compared with it. */
final class House {
    static final int HOURS = 12;

    static class Man {
        int signs(int doing) { return doing; }
        int minds(int more, int text) { return text; }
        int serves(int more, int text) { return text; }
    }

    static class Restless extends Man {
        @Override int signs(int doing) { return doing == 5 ? 5 : doing + 1; }
    }

    static class Still extends Man {
        @Override int signs(int doing) { return doing < 3 ? 0 : super.signs(doing); }
        @Override int minds(int more, int text) { return text / 2; }
    }

    static class Mute extends Restless {
        @Override int signs(int doing) { return doing > 2 ? 0 : super.signs(doing); }
        @Override int minds(int more, int text) { return text + more; }
    }

    static class Lifer extends Still {
        @Override int minds(int more, int text) { return text <= more ? 0 : super.minds(more, text); }
        @Override int serves(int more, int text) { return text / 3; }
    }

    static class Trusty extends Man {
        @Override int signs(int doing) { return doing == 5 ? 0 : super.signs(doing); }
        @Override int serves(int more, int text) { return text < more ? 0 : text - more; }
    }

    static final Man[] KINDS = {new Man(), new Restless(), new Still(), new Mute(), new Lifer(), new Trusty()};

    static final class Law {
        final String text;
        final RandomText.Said[] parts;

        Law(String text, RandomText.Said... parts) {
            this.text = text;
            this.parts = parts;
        }
    }

    int men;
    final int[] kind = new int[6];
    final int[] more = new int[6];
    final int[] term = new int[6];
    final int[] place = new int[6];
    final int[][] doing = new int[6][HOURS];
    int watched;
    int law;
    final List<Law> laws = new ArrayList<>();

    House() {
        laws.add(new Law("", n -> n[0] * n[1], n -> 9, n -> 20));
    }

    static House random(Random chance) {
        House house = new House();
        house.men = chance.nextInt(7);
        List<Integer> places = new ArrayList<>();
        for (int m = 0; m < house.men; m++) places.add(m);
        Collections.shuffle(places, chance);
        for (int m = 0; m < house.men; m++) {
            house.kind[m] = chance.nextInt(6);
            house.more[m] = chance.nextInt(10);
            house.term[m] = chance.nextInt(chance.nextBoolean() ? 10000 : 10);
            house.place[m] = places.get(m);
            for (int h = 0; h < HOURS; h++) house.doing[m][h] = chance.nextInt(3) == 0 ? 0 : chance.nextInt(6);
        }
        house.watched = chance.nextInt(3) == 0 ? 4095 : chance.nextInt(4096);
        int more = chance.nextInt(4);
        for (int i = 0; i < more; i++) house.laws.add(randomLaw(chance));
        house.law = chance.nextInt(house.laws.size());
        return house;
    }

    private static Law randomLaw(Random chance) {
        RandomText counts = RandomText.of(chance, 55), pays = RandomText.of(chance, 45), sees = RandomText.of(chance, 35);
        String text = "counts " + counts.text + ";pays " + pays.text + ";sees " + sees.text + ";";
        return new Law(text, counts.said, pays.said, sees.said);
    }

    House copy() {
        House other = new House();
        other.men = men;
        for (int m = 0; m < men; m++) {
            other.kind[m] = kind[m];
            other.more[m] = more[m];
            other.term[m] = term[m];
            other.place[m] = place[m];
            other.doing[m] = doing[m].clone();
        }
        other.watched = watched;
        other.law = law;
        other.laws.clear();
        other.laws.addAll(laws);
        return other;
    }

    AloneTogether built() {
        AloneTogether x = new AloneTogether();
        for (int m = 0; m < men; m++) {
            x.man(10 * kind[m] + more[m]);
            x.put(m, 12, term[m]);
            Check.doings(x, m, doing[m]);
        }
        for (int m = 0; m < men; m++) {
            for (int other = 0; other < men; other++) {
                if (x.told(other, 15) == place[m]) x.move(m, other);
            }
        }
        x.watches(watched);
        for (int t = 1; t < laws.size(); t++) Check.text(x, laws.get(t).text);
        x.force(law);
        return x;
    }

    int mate(int m) {
        for (int i = 0; i < men; i++) {
            if (i != m && place[i] / 2 == place[m] / 2) return i;
        }
        return -1;
    }

    boolean isWatched(int h) {
        return (watched >> h & 1) == 1;
    }

    int sign(int m, int h) {
        int mate = mate(m);
        return mate < 0 ? 0 : KINDS[kind[mate]].signs(doing[mate][h]);
    }

    int says(int part, int m, int h) {
        int[] names = {doing[m][h], sign(m, h), h, term[m], more[m], isWatched(h) ? 1 : 0};
        int said = laws.get(law).parts[part].by(names);
        int bound = part == 2 ? 100 : 99;
        return said < 0 ? 0 : said > bound ? bound : said;
    }

    int company(int m, int h) {
        return mate(m) < 0 ? 0 : KINDS[kind[m]].minds(more[m], says(0, m, h));
    }

    int days(int m, int h) {
        if (!isWatched(h) || company(m, h) == 0) return 0;
        return KINDS[kind[m]].serves(more[m], says(1, m, h));
    }

    int day(int m) {
        int sum = 0;
        for (int h = 0; h < HOURS; h++) sum += days(m, h);
        return sum;
    }

    int all() {
        int sum = 0;
        for (int m = 0; m < men; m++) sum += day(m);
        return sum;
    }

    boolean quiet(int m, int h) {
        return company(m, h) == 0 && (mate(m) < 0 || company(mate(m), h) == 0);
    }

    int judged(int[] row, int m) {
        for (int h = 0; h < row.length; h++) {
            if (row[h] != company(m, h)) return h;
        }
        return -1;
    }

    void coughs(int seed, int often) {
        long lot = seed + 1L;
        for (int h = 0; h < HOURS; h++) {
            for (int m = 0; m < men; m++) {
                lot = lot * 48271 % 2147483647;
                if (lot % 10 < often) doing[m][h] = 4;
            }
        }
    }
}
