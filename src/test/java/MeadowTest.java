/** Promises 1 to 7: a new object, feed, meadow, fault, told, cell, tithes; their edges stand in EdgesMeadowTest. */
public final class MeadowTest {
    private static final Check check = new Check();
    private static final int NONE = Check.NONE, UNKNOWN = Check.UNKNOWN, OUTSIDE = Check.OUTSIDE, NOT = Check.NOT, FULL = Check.FULL;

    public static void main(String[] args) {
        constants();
        newObject();
        feeds();
        fullText();
        takesTheText();
        aNewMeadowBeginsAnew();
        aFaultLeavesAllElse();
        blanksAloneAreNoCells();
        toldOfAll();
        cells();
        likings();
        tithesByLaws();
        check.end();
    }

    /** Terms, head: NONE and the REFUSALS. */
    private static void constants() {
        check.due("NONE", CowLies.NONE, -1);
        check.due("UNKNOWN", CowLies.UNKNOWN, -1000000001);
        check.due("OUTSIDE", CowLies.OUTSIDE, -1000000002);
        check.due("NOT", CowLies.NOT, -1000000003);
        check.due("FULL", CowLies.FULL, -1000000004);
    }

    /** Promise 1, and what is not refused without cells. */
    private static void newObject() {
        CowLies x = new CowLies();
        int[] told = {0, 0, 0, 0, 4, NONE, NONE, NONE, 0, 0, 0, 0, 0};
        for (int what = 0; what < told.length; what++) check.due("new: told(" + what + ")", x.told(what), told[what]);
        check.due("new: fault()", x.fault(), NONE);
        check.due("new: lay(-1, -1)", x.lay(-1, -1), 0);
        check.due("new: lay(-1, 0)", x.lay(-1, 0), NONE);
        check.due("new: judge()", x.judge(), NONE);
        check.due("new: tear()", x.tear(), 0);
        check.due("new: law(2)", x.law(2), 0);
        check.due("new: keep(1)", x.keep(1), 1);
        check.due("new: law(1)", x.law(1), 2);
        check.due("new: goBack(1)", x.goBack(1), 1);
        check.due("new: told(3) gone back", x.told(3), 2);
        check.due("new: meadow()", x.meadow(), 0);
    }

    /** Promise 2: how many bytes, highest first, none of the others. */
    private static void feeds() {
        CowLies x = new CowLies();
        check.due("feed(0, 0)", x.feed(0, 0), OUTSIDE);
        check.due("feed(9, 0)", x.feed(9, 0), OUTSIDE);
        check.due("feed(-1, 0)", x.feed(-1, 0), OUTSIDE);
        check.due("feed(least)", x.feed(Integer.MIN_VALUE, -1), OUTSIDE);
        check.due("feed(greatest)", x.feed(Integer.MAX_VALUE, -1), OUTSIDE);
        check.due("nothing fed", x.told(2), 0);
        // the highest byte of six is not one of the lowest five: 'X' is left out
        check.due("feed(5, ..)", x.feed(5, Check.bytes("Xmeado")), 5);
        check.due("feed(1, ..)", x.feed(1, Check.bytes("Yw")), 6);
        check.due("feed(8, ..)", x.feed(8, Check.bytes(" 3 2 ;  ")), 14);
        check.due("told(2)", x.told(2), 14);
        check.due("meadow()", x.meadow(), 6);
        check.due("told(2) behind meadow()", x.told(2), 0);
        check.due("told(0)", x.told(0), 3);
        // a byte of 128 and more is one that cannot stand
        x.feed(2, 0x20FFL);
        check.due("meadow() of 255", x.meadow(), -11);
        check.due("fault()", x.fault(), 1);
        x.feed(8, -1L);
        check.due("meadow() of eight 255s", x.meadow(), -11);
        check.due("fault() of eight 255s", x.fault(), 0);
    }

    /** Promise 2: FULL (500); promise 3: THE TEXT is empty then. */
    private static void fullText() {
        CowLies x = new CowLies();
        Check.feed(x, "meadow 9 4;");
        Check.feed(x, " ".repeat(481));
        check.due("told(2)", x.told(2), 492);
        check.due("feed(8) to 500", x.feed(8, Check.bytes("        ")), 500);
        check.due("feed(1) of 501", x.feed(1, ' '), FULL);
        check.due("feed(0) when full", x.feed(0, ' '), OUTSIDE);
        check.due("told(2) full", x.told(2), 500);
        check.due("meadow() of 500 bytes", x.meadow(), 36);
        Check.feed(x, " ".repeat(496));
        check.due("feed(5) behind 496", x.feed(5, 0), FULL);
        check.due("feed(4) behind 496", x.feed(4, Check.bytes("meat")), 500);
        check.due("meadow()", x.meadow(), -11);
        check.due("fault()", x.fault(), 496);
        Check.feed(x, " ".repeat(494) + "meadow");
        check.due("meadow() that ends too soon", x.meadow(), -11);
        check.due("fault() at the text's length", x.fault(), 500);
    }

    /** Promise 3: cells, and what is told of them or untold. */
    private static void takesTheText() {
        CowLies x = new CowLies();
        Check.feed(x, "meadow 8 5;");
        check.due("meadow() 8 5", x.meadow(), 40);
        check.due("fault()", x.fault(), NONE);
        check.due("told(4) untold", x.told(4), 4);
        check.due("told(5) untold", x.told(5), 0);
        check.due("cell(7, 4, 0)", x.cell(7, 4, 0), 1);
        check.due("cell(7, 4, 3)", x.cell(7, 4, 3), 1);
        check.due("cell(7, 4, 4)", x.cell(7, 4, 4), 3);
        Check.feed(x, "meadow 1 9;");
        check.due("meadow() 1 9", x.meadow(), 9);
        Check.feed(x, "meadow 9 1;");
        check.due("meadow() 9 1", x.meadow(), 9);
        Check.feed(x, "  meadow002 003;cow1 2 8;grass 0 0 009 ; thing  flies 1 1;likes 9 0 0 9;tithe 1 2 99;tithe 0 2 0;  ");
        check.due("meadow() with blanks", x.meadow(), 6);
        check.due("told(0)", x.told(0), 2);
        check.due("told(1)", x.told(1), 3);
        check.due("told(4)", x.told(4), 8);
        check.due("told(5)", x.told(5), 12);
        check.due("cell(0, 0, 0)", x.cell(0, 0, 0), 9);
        check.due("cell(0, 0, 1)", x.cell(0, 0, 1), 9);
        check.due("cell(1, 1, 2)", x.cell(1, 1, 2), 4);
        check.due("cell(1, 2, 3)", x.cell(1, 2, 3), 99);
        check.due("cell(0, 2, 3)", x.cell(0, 2, 3), 0);
        check.due("cell(0, 0, 4)", x.cell(0, 0, 4), 82);
        check.due("cell(1, 1, 4)", x.cell(1, 1, 4), 1);
    }

    private static CowLies used() {
        CowLies x = Check.of("meadow 3 3;cow 1 1 5;grass 2 2 9;thing water 2 2;tithe 0 0 50;likes 1 2 3 4;");
        x.seed(99);
        x.law(1);
        x.day(3);
        x.lick(2, 1);
        x.see(1, 1, 2);
        x.write(1, 1, 55);
        x.sow(0, 1, 4);
        x.keep(0);
        x.keep(1);
        return x;
    }

    /** Promise 3: what a new meadow leaves and what it begins anew. */
    private static void aNewMeadowBeginsAnew() {
        CowLies x = used();
        int seed = x.seed(5);
        x.seed(seed);
        Check.feed(x, "meadow 3 4;cow 1 0 2;");
        check.due("meadow() anew", x.meadow(), 12);
        int[] told = {3, 4, 0, 1, 2, 10, NONE, NONE, 0, 0, 0, 0, 0};
        for (int what = 0; what < told.length; what++) check.due("anew: told(" + what + ")", x.told(what), told[what]);
        check.due("anew: goBack(0)", x.goBack(0), NOT);
        check.due("anew: goBack(1)", x.goBack(1), NOT);
        check.due("anew: the seed stays", x.seed(0), seed);
        check.due("anew: things are gone", x.cell(2, 2, 2), 0);
        check.due("anew: liking where the lick was", x.cell(2, 1, 4), 3);
        check.due("anew: grass", x.cell(2, 2, 0), 1);
        check.due("anew: grass at first", x.cell(0, 1, 1), 1);
        check.due("anew: liking", x.cell(1, 1, 4), 3);
        check.due("anew: tithe", x.cell(0, 0, 3), 1);
    }

    /** Promise 3: with a FAULT all else is as it was. */
    private static void aFaultLeavesAllElse() {
        CowLies x = used();
        int answer = Check.meadow(x, "meadow 2 2;grass 0 0 3;thing shade 1 1;tithe 1 1 9;cow 1 1 1;likes 9 9 9 9;bull");
        check.due("meadow() with a fault", answer, -11);
        check.due("fault()", x.fault(), 75);
        check.dueText("behind a fault", Check.stateButFault(x), Check.stateButFault(used()));
        CowLies y = used();
        Check.meadow(y, "bull");
        check.due("meadow() mended", Check.meadow(y, "meadow 1 1;"), 1);
        check.due("fault() mended", y.fault(), NONE);
    }

    /** Promise 3, Terms 1: an empty text, or one of blanks alone. */
    private static void blanksAloneAreNoCells() {
        CowLies x = used();
        Check.feed(x, "   ");
        check.due("meadow() of blanks", x.meadow(), 0);
        check.due("fault()", x.fault(), NONE);
        int[] told = {0, 0, 0, 1, 4, NONE, NONE, NONE, 0, 0, 0, 0, 0};
        for (int what = 0; what < told.length; what++) check.due("blanks: told(" + what + ")", x.told(what), told[what]);
        check.due("blanks: goBack(0)", x.goBack(0), NOT);
        check.due("blanks: goBack(1)", x.goBack(1), NOT);
        check.due("blanks: cell(0, 0, 0)", x.cell(0, 0, 0), UNKNOWN);
        check.due("blanks: mean(0)", x.mean(0), NOT);
        check.due("blanks: lay(-1, -1)", x.lay(-1, -1), 0);
        CowLies y = used();
        check.due("meadow() of no text", y.meadow(), 0);
        check.due("no text: told(8)", y.told(8), 0);
    }

    /** Promise 5. */
    private static void toldOfAll() {
        CowLies x = used();
        Check.feed(x, "cow");
        check.due("told(0)", x.told(0), 3);
        check.due("told(1)", x.told(1), 3);
        check.due("told(2)", x.told(2), 3);
        check.due("told(3)", x.told(3), 1);
        check.due("told(4)", x.told(4), 5);
        check.due("told(5) is where she lay", x.told(5), x.told(6));
        check.due("told(7)", x.told(7), 21);
        check.due("told(8)", x.told(8), 3);
        check.due("purses have all tithes of three days", x.told(9) + x.told(10), 3 * 58);
        check.due("told(11)", x.told(11), 1);
        check.due("told(12)", x.told(12), 1);
        check.due("told(13)", x.told(13), OUTSIDE);
        check.due("told(-1)", x.told(-1), OUTSIDE);
        check.due("told(greatest)", x.told(Integer.MAX_VALUE), OUTSIDE);
    }

    /** Promise 6. */
    private static void cells() {
        CowLies x = Check.of("meadow 3 2;thing shade 2 1;thing flies 2 1;thing water 2 1;thing water 0 0;tithe 2 1 7;grass 2 1 4;");
        check.due("cell(2, 1, 0)", x.cell(2, 1, 0), 4);
        check.due("cell(2, 1, 1)", x.cell(2, 1, 1), 4);
        check.due("cell(2, 1, 2)", x.cell(2, 1, 2), 7);
        check.due("cell(0, 0, 2)", x.cell(0, 0, 2), 2);
        check.due("cell(2, 1, 3)", x.cell(2, 1, 3), 7);
        check.due("cell(2, 1, 4)", x.cell(2, 1, 4), 1 + 8 + 3 + 3 - 4);
        check.due("cell(2, 1, 5)", x.cell(2, 1, 5), OUTSIDE);
        check.due("cell(2, 1, -1)", x.cell(2, 1, -1), OUTSIDE);
        check.due("cell(3, 1, 0)", x.cell(3, 1, 0), UNKNOWN);
        check.due("cell(2, 2, 0)", x.cell(2, 2, 0), UNKNOWN);
        check.due("cell(-1, 0, 0)", x.cell(-1, 0, 0), UNKNOWN);
        check.due("cell(0, -1, 0)", x.cell(0, -1, 0), UNKNOWN);
        check.due("cell(3, 1, 5): UNKNOWN first", x.cell(3, 1, 5), UNKNOWN);
        check.due("cell(far, far, 0)", x.cell(Integer.MAX_VALUE, Integer.MAX_VALUE, 0), UNKNOWN);
        check.due("cell(low, low, 0)", x.cell(Integer.MIN_VALUE, Integer.MIN_VALUE, 0), UNKNOWN);
    }

    /** Promise 6, Terms 2 (LIKING). */
    private static void likings() {
        CowLies x = Check.of("meadow 4 1;grass 0 0 0;thing flies 0 0;grass 1 0 0;thing shade 2 0;thing water 3 0;likes 3 5 7 9;");
        check.due("flies: 1 at least", x.cell(0, 0, 4), 1);
        check.due("no grass", x.cell(1, 0, 4), 1);
        check.due("shade", x.cell(2, 0, 4), 9);
        check.due("water", x.cell(3, 0, 4), 11);
        x.lick(0, 0);
        check.due("the lick comes behind the least", x.cell(0, 0, 4), 21);
        x.lick(3, 0);
        check.due("the lick is elsewhere", x.cell(0, 0, 4), 1);
        check.due("the lick by water", x.cell(3, 0, 4), 31);
    }

    /** Promise 7, Terms 2 (BORDER): each law, the border's own cell, cells as far as it. */
    private static void tithesByLaws() {
        // tithes:  1  2  4
        //          8 16 32
        CowLies x = Check.of("meadow 3 2;tithe 0 0 1;tithe 1 0 2;tithe 2 0 4;tithe 0 1 8;tithe 1 1 16;tithe 2 1 32;");
        int[][] west = {{0, 1 + 8, 1 + 2 + 8 + 16}, {1, 1 + 8 + 2, 1 + 2 + 8 + 16 + 4}};
        int[][] north = {{0, 1, 1 + 2}, {7, 7 + 8, 7 + 8 + 16}};
        int[][] near = {{0, 1, 1 + 2 + 8}, {1, 1 + 2 + 8, 1 + 2 + 4 + 8 + 16}};
        int[][][] byLaw = {west, north, near};
        for (int law = 0; law <= 2; law++) {
            x.law(law);
            for (int y = 0; y < 2; y++) {
                for (int column = 0; column < 3; column++) {
                    String call = "law " + law + ": tithes(.., " + column + ", " + y + ")";
                    check.due(call, x.tithes(0, column, y), byLaw[law][y][column]);
                    check.due(call, x.tithes(1, column, y), 63 - byLaw[law][y][column]);
                }
            }
        }
        check.due("tithes(2, 0, 0)", x.tithes(2, 0, 0), UNKNOWN);
        check.due("tithes(-1, 0, 0)", x.tithes(-1, 0, 0), UNKNOWN);
        check.due("tithes(0, 3, 0)", x.tithes(0, 3, 0), UNKNOWN);
        check.due("tithes(1, 0, 2)", x.tithes(1, 0, 2), UNKNOWN);
    }
}
