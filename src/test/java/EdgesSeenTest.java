/** The edges that Terms 3 (SEEN, LAY, THE BOOK) and promises 20 to 24 name. */
public final class EdgesSeenTest {
    private static final Check check = new Check();
    private static final int NONE = Check.NONE, OUTSIDE = Check.OUTSIDE, FULL = Check.FULL;

    public static void main(String[] args) {
        terms3SeenTenAtMost();
        terms3HoursThatMatter();
        terms3SeenAtOneHour();
        terms3LayIsByWaysAlone();
        terms3LayIsNow();
        terms3BookThirtyAtMost();
        terms3WrongByLawNow();
        promise20See();
        promise21Sum();
        promise21TheIth();
        promise21NoCells();
        promise22Write();
        promise23Tear();
        promise24Judge();
        check.end();
    }

    // ---- Terms 3

    private static void terms3SeenTenAtMost() {
        check.sentence("Terms 3: SEEN (10 at most)");
        CowLies x = Check.of("meadow 9 1;cow 0 0 8;");
        for (int i = 1; i <= 10; i++) check.due("the " + i + "th", x.see(8, 0, 12), i);
        check.due("the 11th", x.see(7, 0, 8), FULL);
        check.due("how many", x.told(11), 10);
        check.due("the 11th is not SEEN", x.lay(NONE, NONE), 9);
        // the tenth counts like the first
        x.tear();
        for (int i = 1; i <= 9; i++) x.see(0, 0, 0);
        check.due("nine", x.lay(NONE, NONE), 9);
        x.see(8, 0, 8);
        check.due("the tenth", x.lay(NONE, NONE), 1);
        x.tear();
        x.see(8, 0, 8);
        for (int i = 2; i <= 10; i++) x.see(0, 0, 0);
        check.due("the first of ten", x.lay(NONE, NONE), 1);
    }

    private static void terms3HoursThatMatter() {
        check.sentence("Terms 3: at an hour h (0 .. 12), to N; later ones do not matter");
        for (int n = 1; n <= 8; n++) {
            for (int h = 0; h <= 12; h++) {
                CowLies x = Check.of("meadow 9 1;cow 8 0 " + n + ";");
                int all = n + 1;
                check.due("nothing SEEN, N " + n, x.lay(NONE, NONE), all);
                // she stayed where she woke for h hours
                x.see(8, 0, h);
                check.due("SEEN at hour " + h + ", N " + n, x.lay(NONE, NONE), h > n ? all : n - h + 1);
                x.tear();
                // she went west hour by hour: farther she cannot be
                if (h > 8) continue;
                x.see(8 - h, 0, h);
                check.due("SEEN as far as can be at hour " + h + ", N " + n, x.lay(NONE, NONE), h > n ? all : Math.min(8, n) - h + wayBack(n, h) + 1);
                x.tear();
                if (h > 7) continue;
                x.see(7 - h, 0, h);
                check.due("SEEN too far at hour " + h + ", N " + n, x.lay(NONE, NONE), h > n ? all : 0);
            }
        }
    }

    /** How many CELLS to the east are within reach of 8 - h in the hours that are left. */
    private static int wayBack(int n, int h) {
        return Math.min(h, n - h);
    }

    private static void terms3SeenAtOneHour() {
        check.sentence("Terms 3: having been at each hour where she was SEEN");
        CowLies x = Check.of("meadow 3 3;cow 1 1 2;");
        x.see(1, 0, 1);
        x.see(1, 0, 1);
        check.due("the same twice", x.lay(NONE, NONE), 4);
        x.see(0, 1, 1);
        check.due("two CELLS at one hour", x.lay(NONE, NONE), 0);
        x.tear();
        x.see(1, 1, 0);
        check.due("where she wakes at hour 0", x.lay(NONE, NONE), 9);
        x.see(1, 0, 0);
        check.due("elsewhere at hour 0", x.lay(NONE, NONE), 0);
        x.tear();
        x.see(0, 0, 2);
        x.see(1, 0, 1);
        check.due("told in any order", x.lay(NONE, NONE), 1);
        check.due("that CELL", x.lay(NONE, 0), 0);
        x.tear();
        x.see(0, 0, 2);
        x.see(2, 1, 1);
        check.due("not in one hour", x.lay(NONE, NONE), 0);
    }

    private static void terms3LayIsByWaysAlone() {
        check.sentence("Terms 3: LAY: CELLS on which she can lie (a LIKING is 1 at least), be the ODDS cut to nothing");
        StringBuilder text = new StringBuilder("meadow 9 1;cow 0 0 8;likes 9 0 0 9;");
        for (int column = 1; column < 9; column++) text.append("grass ").append(column).append(" 0 0;");
        CowLies x = Check.of(text.toString());
        x.sow(0, 0, 9);
        x.sow(0, 0, 9);
        x.lick(0, 0);
        check.due("at hour 8", x.odds(8, 0, 8) > 100000 ? 1 : 0, 0);
        check.due("she can", x.lay(NONE, NONE), 9);
        check.due("the last", x.lay(NONE, 8), 80);
    }

    private static void terms3LayIsNow() {
        check.sentence("Terms 3: LAY: from where she wakes now, by LAW now");
        CowLies x = Check.of("meadow 3 1;cow 0 0 1;tithe 0 0 5;tithe 1 0 6;tithe 2 0 7;");
        check.due("the first", x.lay(NONE, 0), 0);
        x.lead(2, 0);
        check.due("led: how many", x.lay(NONE, NONE), 2);
        check.due("led: the first", x.lay(NONE, 0), 10);
        check.due("by a sum", x.lay(11, 0), 20);
        CowLies y = Check.of("meadow 2 2;cow 0 0 8;tithe 0 0 5;tithe 1 0 6;tithe 0 1 7;");
        check.due("LAW 0", y.lay(12, 0), 10);
        y.law(1);
        check.due("LAW 1", y.lay(11, 0), 1);
        check.due("LAW 1, the other sum", y.lay(12, NONE), 0);
        y.law(2);
        check.due("LAW 2, two alike", y.lay(5, NONE), 2);
        check.due("LAW 2, the second", y.lay(5, 1), 1);
    }

    private static void terms3BookThirtyAtMost() {
        check.sentence("Terms 3: THE BOOK is a row of (CELL, TITHES of PARISH 0), 30 at most");
        CowLies x = Check.of("meadow 2 1;tithe 0 0 9;");
        for (int i = 1; i <= 29; i++) check.due("the " + i + "th", x.write(1, 0, 9), i);
        check.due("none of 29 is WRONG", x.judge(), NONE);
        check.due("the 30th", x.write(1, 0, 8), 30);
        check.due("the 31st", x.write(1, 0, 9), FULL);
        check.due("how many", x.told(12), 30);
        check.due("WRONG: the last", x.judge(), 29);
    }

    private static void terms3WrongByLawNow() {
        check.sentence("Terms 3: WRONG: the first that is not so by LAW now");
        CowLies x = Check.of("meadow 2 2;tithe 0 0 1;tithe 1 0 2;tithe 0 1 4;tithe 1 1 8;");
        // by 1, 1 all laws leave but itself; by 1, 0: 5 or 1 or 1; by 0, 1: 1 or 3 or 1
        x.write(1, 1, 7);
        x.write(0, 0, 0);
        x.write(0, 1, 1);
        x.write(1, 0, 1);
        x.write(0, 1, 3);
        check.due("LAW 0", x.judge(), 3);
        x.law(1);
        check.due("LAW 1", x.judge(), 2);
        x.law(2);
        check.due("LAW 2", x.judge(), 4);
        check.sentence("Terms 3: WRONG does not ask where she lay or will");
        x.lead(1, 1);
        x.day(3);
        check.due("LAW 2 behind days", x.judge(), 4);
    }

    // ---- promises 20 to 24

    private static void promise20See() {
        check.sentence("Promise 20: h 0 .. 12: how many were SEEN");
        CowLies x = Check.of("meadow 8 5;");
        check.due("see(0, 0, 0)", x.see(0, 0, 0), 1);
        check.due("see(7, 4, 12)", x.see(7, 4, 12), 2);
        check.due("see(0, 0, -1)", x.see(0, 0, -1), OUTSIDE);
        check.due("see(0, 0, 13)", x.see(0, 0, 13), OUTSIDE);
        check.due("told(11)", x.told(11), 2);
    }

    private static void promise21Sum() {
        check.sentence("Promise 21: sum NONE .. 9999; NONE: none is told");
        CowLies x = Check.of("meadow 3 1;cow 1 0 1;tithe 0 0 0;tithe 1 0 0;tithe 2 0 9;");
        check.due("lay(-1, -1)", x.lay(-1, -1), 3);
        check.due("lay(0, -1): 0 is a sum", x.lay(0, -1), 3);
        check.due("lay(1, -1)", x.lay(1, -1), 0);
        check.due("lay(9, -1)", x.lay(9, -1), 0);
        check.due("lay(9999, -1)", x.lay(9999, -1), 0);
        check.due("lay(-2, -1)", x.lay(-2, -1), OUTSIDE);
        check.due("lay(10000, -1)", x.lay(10000, -1), OUTSIDE);
        CowLies y = Check.of("meadow 3 1;cow 1 0 1;tithe 0 0 99;");
        check.due("lay(0, -1)", y.lay(0, -1), 1);
        check.due("lay(0, 0)", y.lay(0, 0), 0);
        check.due("lay(99, 0)", y.lay(99, 0), 10);
        check.due("lay(100, 0)", y.lay(100, 0), 20);
        check.due("lay(101, 0)", y.lay(101, 0), NONE);
    }

    private static void promise21TheIth() {
        check.sentence("Promise 21: i = NONE how many, else the i-th (Y by Y, X rising); NONE: not so many");
        CowLies x = Check.of("meadow 3 3;cow 1 1 1;");
        int[] cross = {10, 1, 11, 21, 12};
        check.due("how many", x.lay(NONE, NONE), cross.length);
        for (int i = 0; i < cross.length; i++) check.due("the " + i + "th", x.lay(NONE, i), cross[i]);
        for (int i : new int[] {5, 6, 40, 10000, Integer.MAX_VALUE}) check.due("the " + i + "th", x.lay(NONE, i), NONE);
        // the promise bounds sum alone: there is no i-th below 0
        for (int i : new int[] {-2, -3, Integer.MIN_VALUE}) check.due("the " + i + "th", x.lay(NONE, i), NONE);
        check.due("a sum that none has: the 0th", x.lay(5000, 0), NONE);
    }

    private static void promise21NoCells() {
        check.sentence("Promise 21: no CELLS");
        CowLies x = new CowLies();
        check.due("lay(-1, -1)", x.lay(NONE, NONE), 0);
        check.due("lay(-1, 0)", x.lay(NONE, 0), NONE);
        check.due("lay(0, -1)", x.lay(0, NONE), 0);
        check.due("lay(9999, 9)", x.lay(9999, 9), NONE);
        check.due("lay(10000, -1)", x.lay(10000, NONE), OUTSIDE);
    }

    private static void promise22Write() {
        check.sentence("Promise 22: sum 0 .. 9999: how many");
        CowLies x = Check.of("meadow 8 5;");
        check.due("write(0, 0, 0)", x.write(0, 0, 0), 1);
        check.due("write(7, 4, 9999)", x.write(7, 4, 9999), 2);
        check.due("write(0, 0, -1)", x.write(0, 0, -1), OUTSIDE);
        check.due("write(0, 0, 10000)", x.write(0, 0, 10000), OUTSIDE);
        check.due("told(12)", x.told(12), 2);
        check.due("the second is WRONG", x.judge(), 1);
    }

    private static void promise23Tear() {
        check.sentence("Promise 23: THE BOOK is empty, nothing is SEEN: how many both had");
        CowLies x = new CowLies();
        check.due("no CELLS", x.tear(), 0);
        Check.meadow(x, "meadow 2 1;");
        check.due("neither", x.tear(), 0);
        x.see(0, 0, 12);
        check.due("SEEN alone", x.tear(), 1);
        x.write(0, 0, 7);
        check.due("THE BOOK alone", x.tear(), 1);
        check.due("none left", x.tear(), 0);
        for (int i = 0; i < 10; i++) x.see(1, 0, 0);
        for (int i = 0; i < 30; i++) x.write(1, 0, 7);
        check.due("cannot be", x.lay(NONE, NONE), 0);
        check.due("WRONG", x.judge(), 0);
        check.due("both full", x.tear(), 40);
        check.due("can be", x.lay(NONE, NONE), 2);
        check.due("nothing WRONG", x.judge(), NONE);
        for (int i = 1; i <= 10; i++) check.due("see again", x.see(1, 0, 12), i);
        for (int i = 1; i <= 30; i++) check.due("write again", x.write(0, 0, 0), i);
        check.due("what was torn is gone", x.lay(NONE, NONE), 2);
        check.due("what was torn is not WRONG", x.judge(), NONE);
    }

    private static void promise24Judge() {
        check.sentence("Promise 24: WRONG; NONE");
        CowLies x = new CowLies();
        check.due("no CELLS", x.judge(), NONE);
        Check.meadow(x, "meadow 2 1;tithe 0 0 0;");
        check.due("an empty BOOK", x.judge(), NONE);
        x.write(1, 0, 0);
        check.due("0 is so", x.judge(), NONE);
        x.write(0, 0, 1);
        check.due("the second is not", x.judge(), 1);
        x.write(0, 0, 9999);
        check.due("the first that is not", x.judge(), 1);
        x.tear();
        x.write(0, 0, 1);
        check.due("the very first", x.judge(), 0);
    }
}
