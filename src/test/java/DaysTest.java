/** Promises 8 to 12: day, law, sow, lead, lick; their edges stand in EdgesDaysTest. */
public final class DaysTest {
    private static final Check check = new Check();
    private static final int NONE = Check.NONE;

    public static void main(String[] args) {
        oneCellForDays();
        drawsByHand();
        bordersFillPurses();
        mostDays();
        laws();
        clover();
        leading();
        licks();
        check.end();
    }

    /** Promise 8, Terms 2 (A MORNING). On one cell: she eats each hour, one grows by night, up to what was at first. */
    private static void oneCellForDays() {
        CowLies x = Check.of("meadow 1 1;grass 0 0 9;tithe 0 0 7;cow 0 0 3;");
        check.due("day(1)", x.day(1), 0);
        check.due("grass: 9, less 3, one more", x.cell(0, 0, 0), 7);
        check.due("grass at first", x.cell(0, 0, 1), 9);
        check.due("day(1)", x.day(1), 0);
        check.due("grass: 7, less 3, one more", x.cell(0, 0, 0), 5);
        check.due("day(3)", x.day(3), 0);
        check.due("grass: 0 at least, one more", x.cell(0, 0, 0), 1);
        check.due("told(8)", x.told(8), 5);
        check.due("told(9)", x.told(9), 0);
        check.due("told(10)", x.told(10), 35);
        CowLies none = Check.of("meadow 1 1;grass 0 0 0;");
        none.day(1);
        check.due("no grass grows where none was", none.cell(0, 0, 0), 0);
        CowLies one = Check.of("meadow 1 1;");
        one.day(2);
        check.due("not more than at first", one.cell(0, 0, 0), 1);
    }

    /**
     * Promise 8, Terms 3 (BY DRAWS). The seed 65536 becomes 65536 * 1103515245 + 12345, left over by 2 to the 31:
     * 20077 * 65536 + 12345 (1103515245 left over by 32768 is 20077): the draw of n is 20077 left over by n.
     */
    private static void drawsByHand() {
        // likings 3, 3: of 6: 20077 = 6 * 3346 + 1: below 3: she stays
        CowLies x = Check.of("meadow 2 1;cow 0 0 1;");
        x.seed(65536);
        check.due("a draw of 1 out of 3, 3", x.day(1), 0);
        check.due("the seed behind a draw", x.seed(65536), 20077 * 65536 + 12345);
        // likings 1, 3: of 4: 20077 = 4 * 5019 + 1: not below 1: she goes
        CowLies y = Check.of("meadow 2 1;cow 0 0 1;grass 0 0 0;");
        y.seed(65536);
        check.due("a draw of 1 out of 1, 3", y.day(1), 10);
        check.due("she wakes where she lay", y.told(5), 10);
        check.due("NOON", y.told(6), 10);
        check.due("eaten there, grown by night", y.cell(1, 0, 0), 1);
        // stay, north, east, south, west with likings of 1 each: 20077 = 5 * 4015 + 2: east
        CowLies z = Check.of("meadow 3 3;cow 1 1 1;likes 0 0 0 0;");
        z.seed(65536);
        check.due("a draw of 2 out of five ones", z.day(1), 21);
        // with the lick to the north 25 together: 20077 = 25 * 803 + 2: north has 1 to 21
        z.lead(1, 1);
        z.lick(1, 0);
        z.seed(65536);
        check.due("a draw of 2 with the lick in the north", z.day(1), 10);
        // the greatest seed comes behind 230538014: the draw of n is 32767 left over by n: 3 of 4
        CowLies g = Check.of("meadow 2 1;cow 0 0 1;grass 0 0 0;");
        g.seed(230538014);
        check.due("a draw of 3 out of 1, 3", g.day(1), 10);
        check.due("the greatest seed", g.seed(230538014), 2147483647);
        // with likings 3 and 1 the last one is drawn by 3 alone
        CowLies l = Check.of("meadow 2 1;cow 0 0 1;grass 1 0 0;");
        l.seed(230538014);
        check.due("a draw of 3 out of 3, 1", l.day(1), 10);
        // with seed 0 the draw is 0: 12345 / 65536
        z.lead(1, 1);
        z.seed(0);
        check.due("a draw of 0", z.day(1), 11);
        check.due("the seed behind it", z.seed(0), 12345);
        // a draw each hour, where there is but one cell, too
        CowLies e = Check.of("meadow 1 1;grass 0 0 2;cow 0 0 8;");
        e.seed(2147483647);
        e.day(1);
        check.due("eight draws by the greatest seed", e.seed(0), Check.seedBehind(2147483647, 8));
    }

    /** Promise 8, Terms 2 (PURSE). */
    private static void bordersFillPurses() {
        CowLies x = Check.of("meadow 3 2;tithe 0 0 1;tithe 1 0 2;tithe 2 0 4;tithe 0 1 8;tithe 1 1 16;tithe 2 1 32;");
        int[] purses = {0, 0};
        for (int i = 0; i < 30; i++) {
            x.law(i % 3);
            int noon = x.day(1);
            purses[0] += x.tithes(0, noon / 10, noon % 10);
            purses[1] += x.tithes(1, noon / 10, noon % 10);
            check.due("NOON", x.told(6), noon);
            check.due("told(9)", x.told(9), purses[0]);
            check.due("told(10)", x.told(10), purses[1]);
            check.due("told(8)", x.told(8), i + 1);
        }
    }

    /** Promise 8: as many days as an object is used for, and n MORNINGS alike n times one. */
    private static void mostDays() {
        CowLies x = Check.of("meadow 8 5;cow 4 2 8;" + richTithes());
        CowLies y = Check.of("meadow 8 5;cow 4 2 8;" + richTithes());
        for (int i = 0; i < 400; i++) x.day(99);
        check.due("told(8)", x.told(8), 39600);
        check.due("all tithes of all days", x.told(9) + x.told(10), 39600 * 2000);
        x.day(99);
        for (int i = 0; i < 99; i++) y.day(1);
        CowLies z = Check.of("meadow 8 5;cow 4 2 8;" + richTithes());
        z.day(99);
        check.dueText("99 days at once and one by one", Check.stateOf(z), Check.stateOf(y));
    }

    private static String richTithes() {
        StringBuilder text = new StringBuilder();
        for (int i = 0; i < 20; i++) text.append("tithe").append(i % 8).append(' ').append(i / 8).append(" 99;");
        return text.toString();
    }

    /** Promise 9. */
    private static void laws() {
        CowLies x = Check.of("meadow 2 2;");
        check.due("law(2)", x.law(2), 0);
        check.due("law(0)", x.law(0), 2);
        check.due("law(1)", x.law(1), 0);
        check.due("told(3)", x.told(3), 1);
    }

    /** Promise 10. */
    private static void clover() {
        CowLies x = Check.of("meadow 2 2;grass 1 0 9;cow 1 0 3;likes 9 0 0 0;");
        check.due("sow(1, 0, 1)", x.sow(1, 0, 1), 10);
        check.due("at first, too", x.cell(1, 0, 1), 10);
        check.due("sow(1, 0, 9): 18 at most", x.sow(1, 0, 9), 18);
        check.due("at first 18 at most", x.cell(1, 0, 1), 18);
        check.due("sow(1, 0, 9) again", x.sow(1, 0, 9), 18);
        check.due("its liking", x.cell(1, 0, 4), 163);
        CowLies y = Check.of("meadow 1 1;grass 0 0 9;cow 0 0 8;");
        y.day(1);
        check.due("eaten to 1, grown to 2", y.cell(0, 0, 0), 2);
        check.due("sow(0, 0, 9)", y.sow(0, 0, 9), 11);
        check.due("at first", y.cell(0, 0, 1), 18);
        check.due("sow(0, 0, 9)", y.sow(0, 0, 9), 18);
    }

    /** Promise 11. */
    private static void leading() {
        CowLies x = Check.of("meadow 9 2;cow 3 1 4;");
        check.due("lead(8, 1)", x.lead(8, 1), 31);
        check.due("lead(8, 1) again", x.lead(8, 1), 81);
        check.due("lead(0, 0)", x.lead(0, 0), 81);
        check.due("told(5)", x.told(5), 0);
    }

    /** Promise 12. */
    private static void licks() {
        CowLies x = Check.of("meadow 9 2;");
        check.due("lick(0, 0)", x.lick(0, 0), NONE);
        check.due("lick(8, 1)", x.lick(8, 1), 0);
        check.due("told(7)", x.told(7), 81);
        check.due("liking with the lick", x.cell(8, 1, 4), 23);
        check.due("liking where it was", x.cell(0, 0, 4), 3);
        x.day(5);
        check.due("it stays", x.told(7), 81);
        check.due("lick(8, 1)", x.lick(8, 1), 81);
    }
}
