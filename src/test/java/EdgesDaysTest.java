/** The edges that Terms 2 (LIKING, A MORNING, BORDER) and promises 8 to 12 name. */
public final class EdgesDaysTest {
    private static final Check check = new Check();
    private static final int NONE = Check.NONE, OUTSIDE = Check.OUTSIDE;

    public static void main(String[] args) {
        terms2LikingIsOneAtLeast();
        terms2LikingOfEach();
        terms2WaysOnTheMeadow();
        terms2DrawAboveIt();
        terms2EachHourAnew();
        terms2HoursAreDraws();
        terms2GrassIsZeroAtLeast();
        terms2GrowsIfItHasLess();
        terms2WakesWhereSheLay();
        terms2BorderOfItsOwnLine();
        terms2PursesSoFar();
        terms3SeedWrapsAround();
        promise8Day();
        promise8DaysFollowEachOther();
        promise8UpTo512Calls();
        promise9Law();
        promise10Sow();
        promise11Lead();
        promise12Lick();
        check.end();
    }

    // ---- Terms 2

    /** The liking of the one cell of a meadow. */
    private static int likingOf(String rest) {
        return Check.of("meadow 1 1;" + rest).cell(0, 0, 4);
    }

    private static void terms2LikingIsOneAtLeast() {
        check.sentence("Terms 2: LIKING: F less, if there are flies; 1 at least");
        String flies = "thing flies 0 0;";
        check.due("2 less 0", likingOf(flies + "likes 1 0 0 0;"), 2);
        check.due("2 less 1", likingOf(flies + "likes 1 0 0 1;"), 1);
        check.due("2 less 2", likingOf(flies + "likes 1 0 0 2;"), 1);
        check.due("2 less 3", likingOf(flies + "likes 1 0 0 3;"), 1);
        check.due("1 less 9", likingOf(flies + "grass 0 0 0;likes 9 0 0 9;"), 1);
        check.due("10 less 9", likingOf(flies + "grass 0 0 1;likes 9 0 0 9;"), 1);
        check.due("11 less 9", likingOf(flies + "grass 0 0 5;likes 2 0 0 9;"), 2);
        check.due("shade is counted ahead of the least", likingOf(flies + "thing shade 0 0;grass 0 0 0;likes 0 5 0 4;"), 2);
        check.due("water is counted ahead of the least", likingOf(flies + "thing water 0 0;grass 0 0 0;likes 0 0 5 5;"), 1);
        check.due("no flies, nothing less", likingOf("likes 0 0 0 9;"), 1);
        check.sentence("Terms 2: LIKING: 20 more, if the LICK is there");
        CowLies x = Check.of("meadow 1 1;grass 0 0 0;thing flies 0 0;likes 0 0 0 9;");
        x.lick(0, 0);
        check.due("behind the least", x.cell(0, 0, 4), 21);
    }

    private static void terms2LikingOfEach() {
        check.sentence("Terms 2: LIKING: 1 and G times its GRASS, S, A more");
        for (int g = 0; g <= 9; g++) {
            check.due("grass " + g + " by 9", likingOf("grass 0 0 " + g + ";likes 9 0 0 0;"), 1 + 9 * g);
            check.due("grass 9 by " + g, likingOf("grass 0 0 9;likes " + g + " 9 9 9;"), 1 + 9 * g);
            check.due("shade by " + g, likingOf("thing shade 0 0;likes 0 " + g + " 0 9;"), 1 + g);
            check.due("water by " + g, likingOf("thing water 0 0;likes 0 0 " + g + " 9;"), 1 + g);
        }
    }

    /** All likings are 1: each way has an equal part, cut, the last one the rest; all else has none. */
    private static void terms2WaysOnTheMeadow() {
        check.sentence("Terms 2: where she is, north, east, south, west, that are on the meadow");
        int third = 333333333, more = 333333334, fourth = 250000000, fifth = 200000000;
        partsFrom("meadow 3 3;", 0, 0, new int[] {0, third, 10, third, 1, more});
        partsFrom("meadow 3 3;", 1, 0, new int[] {10, fourth, 20, fourth, 11, fourth, 0, fourth});
        partsFrom("meadow 3 3;", 2, 0, new int[] {20, third, 21, third, 10, more});
        partsFrom("meadow 3 3;", 0, 1, new int[] {1, fourth, 0, fourth, 11, fourth, 2, fourth});
        partsFrom("meadow 3 3;", 1, 1, new int[] {11, fifth, 10, fifth, 21, fifth, 12, fifth, 1, fifth});
        partsFrom("meadow 3 3;", 2, 1, new int[] {21, fourth, 20, fourth, 22, fourth, 11, fourth});
        partsFrom("meadow 3 3;", 0, 2, new int[] {2, third, 1, third, 12, more});
        partsFrom("meadow 3 3;", 1, 2, new int[] {12, fourth, 11, fourth, 22, fourth, 2, fourth});
        partsFrom("meadow 3 3;", 2, 2, new int[] {22, third, 21, third, 12, more});
        partsFrom("meadow 1 1;", 0, 0, new int[] {0, 1000000000});
        partsFrom("meadow 9 1;", 0, 0, new int[] {0, 500000000, 10, 500000000});
        partsFrom("meadow 9 1;", 4, 0, new int[] {40, third, 50, third, 30, more});
        partsFrom("meadow 9 1;", 8, 0, new int[] {80, 500000000, 70, 500000000});
        partsFrom("meadow 1 9;", 0, 0, new int[] {0, 500000000, 1, 500000000});
        partsFrom("meadow 1 9;", 0, 4, new int[] {4, third, 3, third, 5, more});
        partsFrom("meadow 1 9;", 0, 8, new int[] {8, 500000000, 7, 500000000});
    }

    private static void partsFrom(String meadow, int fromX, int fromY, int[] parts) {
        CowLies x = Check.of(meadow + "likes 0 0 0 0;");
        x.lead(fromX, fromY);
        int[] due = new int[100];
        for (int i = 0; i < parts.length; i += 2) due[parts[i]] = parts[i + 1];
        for (int y = 0; y < x.told(1); y++) {
            for (int column = 0; column < x.told(0); column++) {
                String call = meadow + " from " + fromX + ", " + fromY + ": odds(" + column + ", " + y + ", 1)";
                check.due(call, x.odds(column, y, 1), due[10 * column + y]);
            }
        }
    }

    /** Where she is 2, north 1, east 3, south 1, west 4: of 11 each draw, and where it leads. */
    private static void terms2DrawAboveIt() {
        check.sentence("Terms 2: the first of them up to which LIKINGS together are above it");
        String text = "meadow 3 3;grass 1 0 0;grass 2 1 2;grass 1 2 0;grass 0 1 3;likes 1 0 0 0;cow 1 1 1;";
        int[] noons = {11, 11, 10, 21, 21, 21, 12, 1, 1, 1, 1};
        for (int draw = 0; draw < noons.length; draw++) {
            CowLies x = Check.of(text);
            x.seed(Check.seedFor(11, draw));
            check.due("a draw of " + draw + " out of 2, 1, 3, 1, 4", x.day(1), noons[draw]);
        }
        // in a corner there is no north and no west
        int[] inCorner = {20, 20, 21, 21, 21, 10, 10};
        for (int draw = 0; draw < inCorner.length; draw++) {
            CowLies x = Check.of("meadow 3 3;grass 2 1 2;likes 1 0 0 0;cow 2 0 1;");
            x.seed(Check.seedFor(7, draw));
            check.due("a draw of " + draw + " out of 2, 3, 2", x.day(1), inCorner[draw]);
        }
    }

    /** Likings 2 and 1: she stays and eats, so they are 1 and 1 an hour later. */
    private static void terms2EachHourAnew() {
        check.sentence("Terms 2: each hour a DRAW of all LIKINGS; then she eats: GRASS there one less");
        int tried = 0;
        for (int seed = 0; seed < 1000; seed++) {
            int first = Check.seedBehind(seed, 1) / 65536;
            int second = Check.seedBehind(seed, 2) / 65536;
            if (first % 3 == 2) continue;
            CowLies x = Check.of("meadow 2 1;likes 1 0 0 0;grass 1 0 0;cow 0 0 2;");
            x.seed(seed);
            check.due("day(1) by seed " + seed, x.day(1), second % 2 == 0 ? 0 : 10);
            tried++;
        }
        check.holds("seeds by which she stays at first", tried > 100);
    }

    private static void terms2HoursAreDraws() {
        check.sentence("Terms 2: N hours, each hour a DRAW");
        for (int n = 1; n <= 8; n++) {
            CowLies x = Check.of("meadow 3 3;cow 1 1 " + n + ";");
            x.seed(77);
            x.day(1);
            check.due("the seed behind " + n + " hours", x.seed(77), Check.seedBehind(77, n));
            x.day(99);
            check.due("the seed behind 99 days of " + n, x.seed(0), Check.seedBehind(77, 99 * n));
        }
    }

    private static void terms2GrassIsZeroAtLeast() {
        check.sentence("Terms 2: she eats: GRASS there one less (0 at least)");
        for (int n = 1; n <= 8; n++) {
            for (int g = 0; g <= 9; g++) {
                CowLies x = Check.of("meadow 1 1;grass 0 0 " + g + ";cow 0 0 " + n + ";");
                x.day(1);
                check.due("grass " + g + " behind " + n + " hours and a night", x.cell(0, 0, 0), g == 0 ? 0 : Math.max(0, g - n) + 1);
                check.due("at first", x.cell(0, 0, 1), g);
            }
        }
    }

    private static void terms2GrowsIfItHasLess() {
        check.sentence("Terms 2: GRASS one more by night, if it has less than it had at first (as told, or sown)");
        CowLies x = Check.of("meadow 1 1;grass 0 0 9;cow 0 0 8;");
        int[] nights = {2, 1, 1};
        for (int night : nights) {
            x.day(1);
            check.due("eaten down", x.cell(0, 0, 0), night);
        }
        // on two cells far apart what she does not come to grows on till it is as at first
        CowLies far = Check.of("meadow 9 1;grass 0 0 3;cow 0 0 3;likes 0 0 0 0;");
        far.day(1);
        int at = far.sow(0, 0, 2);
        check.due("at first, sown", far.cell(0, 0, 1), 5);
        for (int i = 0; i < 8; i++) {
            far.lead(8, 0);
            far.day(1);
            at = Math.min(5, at + 1);
            check.due("grown by night " + i, far.cell(0, 0, 0), at);
        }
        check.due("not more than at first", far.cell(0, 0, 0), 5);
        CowLies none = Check.of("meadow 2 1;grass 0 0 0;grass 1 0 0;");
        none.day(9);
        check.due("none where none was", none.cell(0, 0, 0) + none.cell(1, 0, 0), 0);
    }

    private static void terms2WakesWhereSheLay() {
        check.sentence("Terms 2: at noon she lies: NOON; she wakes the next day where she lay");
        CowLies x = Check.of("meadow 3 3;cow 1 1 3;");
        for (int i = 0; i < 20; i++) {
            int noon = x.day(1);
            check.due("NOON of day " + i, x.told(6), noon);
            check.due("where she wakes behind day " + i, x.told(5), noon);
        }
        int noon = x.told(6);
        int elsewhere = noon == 20 ? 22 : 20;
        x.lead(elsewhere / 10, elsewhere % 10);
        check.due("she wakes where she was led", x.told(5), elsewhere);
        check.due("NOON is where she lay", x.told(6), noon);
    }

    /** Each CELL alone has a tithe, so that TITHES tell whose it is. */
    private static void terms2BorderOfItsOwnLine() {
        check.sentence("Terms 2: BORDER: LAW 0: of that X: Y less than its Y west, else east");
        for (int told = 0; told < 9; told++) {
            StringBuilder text = new StringBuilder("meadow 3 3;");
            for (int c = 0; c < 9; c++) text.append("tithe ").append(c % 3).append(' ').append(c / 3).append(c == told ? " 1;" : " 0;");
            CowLies x = Check.of(text.toString());
            int tx = told % 3, ty = told / 3;
            for (int border = 0; border < 9; border++) {
                int bx = border % 3, by = border / 3;
                String by0 = tx + ", " + ty + " by " + bx + ", " + by;
                x.law(0);
                due(x, by0 + " by LAW 0", tx < bx || tx == bx && ty < by, bx, by);
                x.law(1);
                due(x, by0 + " by LAW 1", ty < by || ty == by && tx < bx, bx, by);
                x.law(2);
                due(x, by0 + " by LAW 2", tx + ty < bx + by, bx, by);
            }
        }
    }

    private static void due(CowLies x, String what, boolean first, int bx, int by) {
        check.due("PARISH 0 has " + what, x.tithes(0, bx, by), first ? 1 : 0);
        check.due("PARISH 1 has " + what, x.tithes(1, bx, by), first ? 0 : 1);
    }

    private static void terms2PursesSoFar() {
        check.sentence("Terms 2: PURSE of each: all TITHES so far");
        CowLies x = Check.of("meadow 1 2;tithe 0 0 99;tithe 0 1 0;cow 0 1 1;grass 0 0 0;likes 9 0 0 0;");
        check.due("PURSE of PARISH 0 at first", x.told(9), 0);
        check.due("PURSE of PARISH 1 at first", x.told(10), 0);
        int first = 0;
        for (int i = 1; i <= 30; i++) {
            if (x.day(1) == 1) first += 99;
            check.due("PURSE of PARISH 0 behind day " + i, x.told(9), first);
            check.due("PURSE of PARISH 1 behind day " + i, x.told(10), 99 * i - first);
        }
    }

    // ---- Terms 3, by draws

    private static void terms3SeedWrapsAround() {
        check.sentence("Terms 3: it becomes it times 1103515245 and 12345, left over by 2 to the 31");
        // by hand: 2 to the 31 less 1103515245, and 12345: (2147483647 is one less than 2 to the 31)
        int[][] seeds = {{0, 12345}, {1, 1103527590}, {2, 59559187}, {2147483647, 1043980748}, {1073741824, 12345 + 1073741824},
            {230538014, 2147483647}};
        for (int[] seed : seeds) {
            CowLies x = Check.of("meadow 1 1;cow 0 0 1;");
            x.seed(seed[0]);
            x.day(1);
            check.due("behind " + seed[0], x.seed(0), seed[1]);
        }
        check.sentence("Terms 3: the DRAW of n is it / 65536, left over by n: the greatest is 32767");
        CowLies x = Check.of("meadow 2 1;cow 0 0 1;likes 0 0 0 0;");
        x.seed(230538014);
        check.due("32767 left over by 2", x.day(1), 10);
        x.lead(0, 0);
        x.seed(0);
        check.due("0 left over by 2", x.day(1), 0);
    }

    // ---- promises 8 to 12

    private static void promise8Day() {
        check.sentence("Promise 8: n MORNINGS (1 .. 99)");
        for (int n : new int[] {1, 2, 98, 99}) {
            CowLies x = Check.of("meadow 3 2;cow 1 1 3;grass 0 0 9;");
            CowLies y = Check.of("meadow 3 2;cow 1 1 3;grass 0 0 9;");
            int last = 0;
            for (int i = 0; i < n; i++) last = y.day(1);
            check.due("NOON of the last one of " + n, x.day(n), last);
            check.due("DAYS", x.told(8), n);
            check.dueText("all behind " + n, Check.allOf(x), Check.allOf(y));
        }
        CowLies x = Check.of("meadow 3 3;");
        check.due("day(0)", x.day(0), OUTSIDE);
        check.due("day(100)", x.day(100), OUTSIDE);
        check.due("DAYS", x.told(8), 0);
        check.due("NOON", x.told(6), NONE);
    }

    /** Days are counted on over calls, and begin at 0 by a new meadow. */
    private static void promise8DaysFollowEachOther() {
        check.sentence("Promises 5 and 8: DAYS");
        CowLies x = Check.of("meadow 2 2;");
        x.day(99);
        x.day(1);
        check.due("99 and 1", x.told(8), 100);
        Check.meadow(x, "meadow 2 2;");
        check.due("a new meadow", x.told(8), 0);
        x.day(1);
        check.due("its first day", x.told(8), 1);
    }

    private static void promise8UpTo512Calls() {
        check.sentence("What it is: at most 512 calls");
        CowLies x = new CowLies();
        x.feed(8, Check.bytes("meadow 1"));
        x.feed(3, Check.bytes(" 1;"));
        x.meadow();
        for (int call = 4; call <= 511; call++) x.day(99);
        check.due("DAYS, the 512th call", x.told(8), 508 * 99);
    }

    private static void promise9Law() {
        check.sentence("Promise 9: LAW becomes v (0 .. 2): what it was");
        CowLies x = new CowLies();
        check.due("law(0) of a new one", x.law(0), 0);
        for (int from = 0; from <= 2; from++) {
            for (int to = 0; to <= 2; to++) {
                x.law(from);
                check.due("law(" + to + ")", x.law(to), from);
                check.due("LAW", x.told(3), to);
            }
        }
        check.sentence("Promise 9, Terms 2: TITHES by LAW from then on, PURSES as they were");
        CowLies y = Check.of("meadow 2 2;tithe 1 0 9;cow 1 1 1;");
        y.day(1);
        int purse = y.told(9);
        y.law(2);
        check.due("PURSE", y.told(9), purse);
    }

    private static void promise10Sow() {
        check.sentence("Promise 10, Terms 3: k (1 .. 9): GRASS k more there (18 at most), now and at first");
        for (int g = 0; g <= 9; g++) {
            for (int k = 1; k <= 9; k++) {
                CowLies x = Check.of("meadow 2 1;grass 1 0 " + g + ";");
                check.due("sow(1, 0, " + k + ") on " + g, x.sow(1, 0, k), g + k);
                check.due("GRASS", x.cell(1, 0, 0), g + k);
                check.due("at first", x.cell(1, 0, 1), g + k);
                check.due("sow(1, 0, 9) behind it", x.sow(1, 0, 9), Math.min(18, g + k + 9));
                check.due("at first", x.cell(1, 0, 1), Math.min(18, g + k + 9));
                check.due("beside it", x.cell(0, 0, 0), 1);
            }
        }
        CowLies x = Check.of("meadow 1 1;grass 0 0 8;");
        check.due("17", x.sow(0, 0, 9), 17);
        check.due("18", x.sow(0, 0, 1), 18);
        check.due("18 at most", x.sow(0, 0, 1), 18);
        // eaten to 11 of 18: at first stays 18 while now grows
        CowLies eaten = Check.of("meadow 1 1;grass 0 0 9;cow 0 0 8;");
        eaten.sow(0, 0, 9);
        eaten.day(1);
        check.due("18 less 8 and one", eaten.cell(0, 0, 0), 11);
        check.due("now", eaten.sow(0, 0, 7), 18);
        check.due("at first", eaten.cell(0, 0, 1), 18);
    }

    private static void promise11Lead() {
        check.sentence("Promise 11: she wakes on a CELL: where she would have");
        CowLies x = Check.of("meadow 8 5;cow 3 2 4;");
        int[][] corners = {{0, 0}, {7, 0}, {0, 4}, {7, 4}, {7, 4}};
        int was = 32;
        for (int[] c : corners) {
            check.due("lead(" + c[0] + ", " + c[1] + ")", x.lead(c[0], c[1]), was);
            was = 10 * c[0] + c[1];
            check.due("where she wakes", x.told(5), was);
            check.due("she is there at hour 0", x.odds(c[0], c[1], 0), 1000000000);
        }
        check.due("N stays", x.told(4), 4);
    }

    private static void promise12Lick() {
        check.sentence("Promise 12, Terms 3: the LICK (none at first; it stays where it is put, till it is put elsewhere)");
        CowLies x = Check.of("meadow 8 5;");
        int[][] corners = {{0, 0}, {7, 0}, {0, 4}, {7, 4}, {7, 4}};
        int was = NONE;
        for (int[] c : corners) {
            check.due("lick(" + c[0] + ", " + c[1] + ")", x.lick(c[0], c[1]), was);
            was = 10 * c[0] + c[1];
            check.due("the LICK", x.told(7), was);
            check.due("LIKING there", x.cell(c[0], c[1], 4), 23);
        }
        check.due("LIKING where it was", x.cell(0, 0, 4), 3);
        x.day(20);
        check.due("behind days", x.told(7), 74);
    }
}
