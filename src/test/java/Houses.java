/** Houses in which something of all that an object keeps is otherwise than at first. */
final class Houses {
    private Houses() {
    }

    static AloneTogether empty() {
        return new AloneTogether();
    }

    /**
     * Men 0 and 1 are MATES, 2 is alone; there is room for more MEN, TEXTS and bytes. SHEETS: 0 tells the COMPANY of man 0,
     * 1 is too long for a day, 2 is of ints, 3 is missing. THE IMAGE is of two MEN, who lie and do otherwise, under TEXT 0.
     */
    static AloneTogether three() {
        AloneTogether x = new AloneTogether();
        x.man(3);
        x.man(34);
        x.put(0, 3, 5);
        x.put(1, 12, 9000);
        x.watches(5);
        x.image();
        x.man(22);
        x.move(0, 1);
        Check.doings(x, 0, 1, 2, 3, 4, 5, 0, 1, 2, 3, 4, 5, 0);
        Check.doings(x, 1, 0, 1, 2, 3, 4, 5, 0, 1, 2, 3, 4, 5);
        Check.doings(x, 2, 5, 5, 5);
        x.put(0, 12, 77);
        x.put(2, 12, 9999);
        x.watches(2925);
        Check.law(x, "mine + his", "more + watched + 1", "10 * hour + (term = 77)");
        x.film(0, 0, 12);
        Check.row(x, 1, 1, 7, 8, 9, 10, 11, 12, 13, 14, 15, 16, 17, 18, 19);
        Check.row(x, 2, 2, 50, 41, 32, 23, 14);
        Check.feed(x, "counts 3;pa");
        return x;
    }

    /**
     * No room for a MAN, a TEXT, a byte. One of each KIND; SHEETS: 0 of 40 bytes, 1 of no shorts, 2 tells the COMPANY of
     * man 0, 3 is of one int. THE IMAGE is of the first five MEN.
     */
    static AloneTogether full() {
        AloneTogether x = new AloneTogether();
        for (int m = 0; m < 5; m++) x.man(11 * m);
        for (int m = 0; m < 5; m++) Check.doings(x, m, m, 5 - m, 3, 4);
        x.watches(1);
        x.image();
        x.man(59);
        x.put(5, 12, 9999);
        x.put(5, 11, 5);
        x.move(0, 5);
        x.watches(4095);
        for (int t = 1; t < 6; t++) Check.text(x, "counts mine+" + t + ";pays his;sees " + t + ";");
        x.force(5);
        x.sheet(0, 0, 40);
        x.cell(0, 0, 12);
        x.cell(0, 39, 34);
        x.sheet(1, 1, 0);
        x.film(2, 0, 12);
        Check.row(x, 3, 2, 9);
        for (int i = 0; i < 32; i++) x.feed(5, ' ', ' ', ' ', ' ', ' ');
        return x;
    }
}
