import java.util.function.Supplier;

/**
 * Terms, head (REFUSALS), with promises 2 to 27: what is refused by which of them, of several the first,
 * and that it changes nothing. Of each number the one just below the least, the one just above the greatest
 * and some far off are asked.
 */
public final class RefusalsTest {
    private static final int UNKNOWN = Check.UNKNOWN, OUTSIDE = Check.OUTSIDE, NOT = Check.NOT, FULL = Check.FULL;
    private static final int LEAST = Integer.MIN_VALUE, GREATEST = Integer.MAX_VALUE;
    private static final Check check = new Check();

    /** No CELLS yet, and a text that is not taken yet. */
    private static final Supplier<CowLies> NEW = RefusalsTest::withoutCells;
    /** No CELLS again, behind a text of blanks. */
    private static final Supplier<CowLies> EMPTY = RefusalsTest::withoutCellsAgain;
    /** Two by two CELLS, some of all; IMAGE 0 is kept, IMAGE 1 is not. */
    private static final Supplier<CowLies> USED = RefusalsTest::used;
    /** The same; the text, THE BOOK and what was SEEN are full, both IMAGES are kept. */
    private static final Supplier<CowLies> BRIM = RefusalsTest::full;

    private interface OneNumber {
        long on(CowLies x, int v);
    }

    private interface TwoNumbers {
        long on(CowLies x, int cx, int cy);
    }

    public static void main(String[] args) {
        promise2Feed();
        promises5To7Told();
        promises8To12Days();
        promise13Odds();
        promise14Mean();
        promise15Clover();
        promise16Rests();
        promises17To19();
        promise20See();
        promise21Lay();
        promise22Write();
        promises25To27();
        check.end();
    }

    // ---- objects

    private static CowLies withoutCells() {
        CowLies x = new CowLies();
        x.seed(3);
        x.law(1);
        x.keep(0);
        Check.feed(x, "meadow 2 1");
        return x;
    }

    private static CowLies withoutCellsAgain() {
        CowLies x = used();
        Check.meadow(x, ";");
        Check.meadow(x, "  ");
        return x;
    }

    private static CowLies used() {
        CowLies x = Check.of("meadow 2 2;grass 0 0 5;thing water 1 1;tithe 1 0 7;cow 1 0 2;");
        x.seed(11);
        x.law(1);
        x.day(2);
        x.lick(0, 1);
        x.see(1, 1, 1);
        x.write(1, 1, 9);
        x.keep(0);
        x.day(1);
        x.sow(0, 1, 3);
        Check.feed(x, "meadow 2 1");
        return x;
    }

    private static CowLies full() {
        CowLies x = used();
        for (int i = x.told(11); i < 10; i++) x.see(1, 1, 1);
        for (int i = x.told(12); i < 30; i++) x.write(0, 1, 8);
        x.keep(1);
        Check.feed(x, ";" + " ".repeat(500 - 1 - x.told(2)));
        return x;
    }

    // ---- several calls of a kind

    /** A number that is refused: the ones given, and some far off. */
    private static void numbers(String call, int refusal, Supplier<CowLies> made, OneNumber one, int... given) {
        for (int v : given) check.refused(call + " of " + v, made, x -> one.on(x, v), refusal);
        for (int v : new int[] {LEAST, UNKNOWN, -1000, 1000000000, GREATEST}) {
            if (v < given[0] || v > given[given.length - 1] && given.length > 1) {
                check.refused(call + " of " + v, made, x -> one.on(x, v), refusal);
            }
        }
    }

    /** A CELL that there is not: beside the two by two, far off, and any without CELLS. */
    private static void cells(String call, TwoNumbers two) {
        int[][] beside = {{-1, 0}, {2, 0}, {0, -1}, {0, 2}, {2, 2}, {-1, -1}, {-1, 1}, {2, -1}, {1, 2}, {-2, 1}, {4, 0}, {0, 4},
            {LEAST, 0}, {GREATEST, 1}, {0, LEAST}, {1, GREATEST}, {LEAST, LEAST}, {GREATEST, GREATEST}, {1 << 30, 1 << 30}, {1, 1 << 31}};
        for (int[] c : beside) {
            check.refused(call + " on " + c[0] + ", " + c[1], USED, x -> two.on(x, c[0], c[1]), UNKNOWN);
            check.refused(call + " when full on " + c[0] + ", " + c[1], BRIM, x -> two.on(x, c[0], c[1]), UNKNOWN);
        }
        check.refused(call + " without cells", NEW, x -> two.on(x, 0, 0), UNKNOWN);
        check.refused(call + " without cells again", EMPTY, x -> two.on(x, 0, 0), UNKNOWN);
    }

    /** NOT now: there are no CELLS. */
    private static void not(String call, Check.Call one) {
        check.refused(call + " without cells", NEW, one, NOT);
        check.refused(call + " without cells again", EMPTY, one, NOT);
    }

    // ---- the meadow

    private static void promise2Feed() {
        check.sentence("Promise 2, feed: n 1 .. 8");
        numbers("feed", OUTSIDE, USED, (x, v) -> x.feed(v, ' '), 0, 9);
        numbers("feed", OUTSIDE, NEW, (x, v) -> x.feed(v, -1L), 0, 9);
        check.sentence("Promise 2, feed: OUTSIDE, FULL, of both the first");
        numbers("feed when full", OUTSIDE, BRIM, (x, v) -> x.feed(v, ' '), 0, 9);
        check.sentence("Promise 2, feed: FULL (500)");
        for (int n = 1; n <= 8; n++) {
            int bytes = n;
            check.refused("feed(" + n + ") behind 500", BRIM, x -> x.feed(bytes, -1L), FULL);
            check.refused("feed(" + n + ") to 501", () -> withTextOf(501 - bytes), x -> x.feed(bytes, 0), FULL);
        }
    }

    private static CowLies withTextOf(int bytes) {
        CowLies x = new CowLies();
        Check.feed(x, "meadow 1 1;" + " ".repeat(bytes - 11));
        return x;
    }

    private static void promises5To7Told() {
        check.sentence("Promise 5, told: what 0 .. 12");
        numbers("told", OUTSIDE, USED, (x, v) -> x.told(v), -1, 13);
        numbers("told", OUTSIDE, NEW, (x, v) -> x.told(v), -1, 13);
        check.sentence("Promise 6, cell: of a CELL");
        cells("cell", (x, cx, cy) -> x.cell(cx, cy, 0));
        check.sentence("Promise 6, cell: UNKNOWN first, then OUTSIDE");
        cells("cell", (x, cx, cy) -> x.cell(cx, cy, 5));
        check.sentence("Promise 6, cell: what 0 .. 4");
        numbers("cell", OUTSIDE, USED, (x, v) -> x.cell(1, 1, v), -1, 5);
        check.sentence("Promise 7, tithes: of a PARISH by a CELL");
        numbers("tithes", UNKNOWN, USED, (x, v) -> x.tithes(v, 0, 0), -1, 2);
        numbers("tithes", UNKNOWN, EMPTY, (x, v) -> x.tithes(v, 0, 0), -1, 2);
        cells("tithes", (x, cx, cy) -> x.tithes(0, cx, cy));
        cells("tithes", (x, cx, cy) -> x.tithes(1, cx, cy));
    }

    // ---- days

    private static void promises8To12Days() {
        check.sentence("Promise 8, day: n 1 .. 99");
        numbers("day", OUTSIDE, USED, (x, v) -> x.day(v), 0, 100);
        check.sentence("Promise 8, day: NOT: no CELLS");
        not("day(1)", x -> x.day(1));
        not("day(99)", x -> x.day(99));
        check.sentence("Promise 8, day: OUTSIDE first, then NOT");
        numbers("day", OUTSIDE, NEW, (x, v) -> x.day(v), 0, 100);
        numbers("day", OUTSIDE, EMPTY, (x, v) -> x.day(v), 0, 100);
        check.sentence("Promise 9, law: v 0 .. 2");
        numbers("law", OUTSIDE, USED, (x, v) -> x.law(v), -1, 3);
        numbers("law", OUTSIDE, NEW, (x, v) -> x.law(v), -1, 3);
        check.sentence("Promise 10, sow: on a CELL");
        cells("sow", (x, cx, cy) -> x.sow(cx, cy, 1));
        check.sentence("Promise 10, sow: UNKNOWN first, then OUTSIDE");
        cells("sow", (x, cx, cy) -> x.sow(cx, cy, 0));
        cells("sow", (x, cx, cy) -> x.sow(cx, cy, 10));
        check.sentence("Promise 10, sow: k 1 .. 9");
        numbers("sow", OUTSIDE, USED, (x, v) -> x.sow(1, 1, v), 0, 10);
        check.sentence("Promise 11, lead: on a CELL");
        cells("lead", (x, cx, cy) -> x.lead(cx, cy));
        check.sentence("Promise 12, lick: on a CELL");
        cells("lick", (x, cx, cy) -> x.lick(cx, cy));
    }

    // ---- odds

    private static void promise13Odds() {
        check.sentence("Promise 13, odds: on a CELL");
        cells("odds", (x, cx, cy) -> x.odds(cx, cy, 0));
        check.sentence("Promise 13, odds: UNKNOWN first, then OUTSIDE");
        cells("odds", (x, cx, cy) -> x.odds(cx, cy, -1));
        cells("odds", (x, cx, cy) -> x.odds(cx, cy, 13));
        check.sentence("Promise 13, odds: h 0 .. 12");
        numbers("odds", OUTSIDE, USED, (x, v) -> x.odds(0, 0, v), -1, 13);
    }

    private static void promise14Mean() {
        check.sentence("Promise 14, mean: of a PARISH");
        numbers("mean", UNKNOWN, USED, (x, v) -> x.mean(v), -1, 2);
        check.sentence("Promise 14, mean: UNKNOWN first, then NOT");
        numbers("mean", UNKNOWN, NEW, (x, v) -> x.mean(v), -1, 2);
        numbers("mean", UNKNOWN, EMPTY, (x, v) -> x.mean(v), -1, 2);
        check.sentence("Promise 14, mean: NOT: no CELLS");
        not("mean(0)", x -> x.mean(0));
        not("mean(1)", x -> x.mean(1));
    }

    private static void promise15Clover() {
        check.sentence("Promise 15, clover: of a PARISH");
        numbers("clover", UNKNOWN, USED, (x, v) -> x.clover(v, 1, 0), -1, 2);
        check.sentence("Promise 15, clover: k 1 .. 9");
        numbers("clover by k", OUTSIDE, USED, (x, v) -> x.clover(0, v, 0), 0, 10);
        check.sentence("Promise 15, clover: what 0, 1");
        numbers("clover what", OUTSIDE, USED, (x, v) -> x.clover(1, 9, v), -1, 2);
        check.sentence("Promise 15, clover: NOT: no CELLS");
        not("clover(0, 1, 0)", x -> x.clover(0, 1, 0));
        not("clover(1, 9, 1)", x -> x.clover(1, 9, 1));
        check.sentence("Promise 15, clover: UNKNOWN first, then OUTSIDE, then NOT");
        numbers("clover with all wrong", UNKNOWN, NEW, (x, v) -> x.clover(v, 0, 2), -1, 2);
        numbers("clover with a wrong parish, k", UNKNOWN, USED, (x, v) -> x.clover(v, 10, 0), -1, 2);
        numbers("clover with a wrong parish, what", UNKNOWN, USED, (x, v) -> x.clover(v, 1, -1), -1, 2);
        numbers("clover by k", OUTSIDE, NEW, (x, v) -> x.clover(0, v, 0), 0, 10);
        numbers("clover what", OUTSIDE, EMPTY, (x, v) -> x.clover(0, 9, v), -1, 2);
    }

    private static void promise16Rests() {
        check.sentence("Promise 16, rests: parish NONE, 0, 1");
        numbers("rests", UNKNOWN, USED, (x, v) -> x.rests(v, 1), -2, 2);
        check.sentence("Promise 16, rests: OUTSIDE (k)");
        numbers("rests by k", OUTSIDE, USED, (x, v) -> x.rests(-1, v), 0, 10);
        numbers("rests(0) by k", OUTSIDE, USED, (x, v) -> x.rests(0, v), 0, 10);
        numbers("rests(1) by k", OUTSIDE, USED, (x, v) -> x.rests(1, v), 0, 10);
        check.sentence("Promise 16, rests: NOT: no CELLS");
        for (int parish = -1; parish <= 1; parish++) {
            int p = parish;
            not("rests(" + p + ", 1)", x -> x.rests(p, 1));
        }
        check.sentence("Promise 16, rests: UNKNOWN first, then OUTSIDE, then NOT");
        numbers("rests with a wrong k", UNKNOWN, USED, (x, v) -> x.rests(v, 0), -2, 2);
        numbers("rests with a wrong k", UNKNOWN, NEW, (x, v) -> x.rests(v, 10), -2, 2);
        numbers("rests by k", OUTSIDE, NEW, (x, v) -> x.rests(-1, v), 0, 10);
    }

    private static void promises17To19() {
        check.sentence("Promise 17, worth: to a PARISH on a CELL");
        numbers("worth", UNKNOWN, USED, (x, v) -> x.worth(v, 0, 0), -1, 2);
        numbers("worth", UNKNOWN, NEW, (x, v) -> x.worth(v, 0, 0), -1, 2);
        cells("worth", (x, cx, cy) -> x.worth(0, cx, cy));
        cells("worth", (x, cx, cy) -> x.worth(1, cx, cy));
        check.sentence("Promise 18, fairest: what 0, 1");
        numbers("fairest", OUTSIDE, USED, (x, v) -> x.fairest(v), -1, 2);
        check.sentence("Promise 18, fairest: OUTSIDE first, then NOT: no CELLS");
        numbers("fairest", OUTSIDE, NEW, (x, v) -> x.fairest(v), -1, 2);
        not("fairest(0)", x -> x.fairest(0));
        not("fairest(1)", x -> x.fairest(1));
        check.sentence("Promise 19, watch: what 0 .. 2");
        numbers("watch", OUTSIDE, USED, (x, v) -> x.watch(v), -1, 3);
        check.sentence("Promise 19, watch: OUTSIDE first, then NOT: no CELLS");
        numbers("watch", OUTSIDE, NEW, (x, v) -> x.watch(v), -1, 3);
        not("watch(0)", x -> x.watch(0));
        not("watch(2)", x -> x.watch(2));
    }

    // ---- what was seen

    private static void promise20See() {
        check.sentence("Promise 20, see: on a CELL");
        cells("see", (x, cx, cy) -> x.see(cx, cy, 0));
        check.sentence("Promise 20, see: UNKNOWN first, then OUTSIDE");
        cells("see", (x, cx, cy) -> x.see(cx, cy, -1));
        cells("see", (x, cx, cy) -> x.see(cx, cy, 13));
        check.sentence("Promise 20, see: h 0 .. 12");
        numbers("see", OUTSIDE, USED, (x, v) -> x.see(0, 0, v), -1, 13);
        check.sentence("Promise 20, see: OUTSIDE first, then FULL");
        numbers("see when full", OUTSIDE, BRIM, (x, v) -> x.see(0, 0, v), -1, 13);
        check.sentence("Promise 20, see: FULL (10)");
        check.refused("see(0, 0, 0)", BRIM, x -> x.see(0, 0, 0), FULL);
        check.refused("see(1, 1, 1), as before", BRIM, x -> x.see(1, 1, 1), FULL);
        check.refused("see(1, 1, 12)", BRIM, x -> x.see(1, 1, 12), FULL);
    }

    private static void promise21Lay() {
        check.sentence("Promise 21, lay: sum NONE .. 9999");
        numbers("lay(.., -1)", OUTSIDE, USED, (x, v) -> x.lay(v, -1), -2, 10000);
        numbers("lay(.., 0)", OUTSIDE, USED, (x, v) -> x.lay(v, 0), -2, 10000);
        numbers("lay(.., -1)", OUTSIDE, NEW, (x, v) -> x.lay(v, -1), -2, 10000);
    }

    private static void promise22Write() {
        check.sentence("Promise 22, write: on a CELL");
        cells("write", (x, cx, cy) -> x.write(cx, cy, 0));
        check.sentence("Promise 22, write: UNKNOWN first, then OUTSIDE");
        cells("write", (x, cx, cy) -> x.write(cx, cy, -1));
        cells("write", (x, cx, cy) -> x.write(cx, cy, 10000));
        check.sentence("Promise 22, write: sum 0 .. 9999");
        numbers("write", OUTSIDE, USED, (x, v) -> x.write(0, 0, v), -1, 10000);
        check.sentence("Promise 22, write: OUTSIDE first, then FULL");
        numbers("write when full", OUTSIDE, BRIM, (x, v) -> x.write(0, 0, v), -1, 10000);
        check.sentence("Promise 22, write: FULL (30)");
        check.refused("write(0, 0, 0)", BRIM, x -> x.write(0, 0, 0), FULL);
        check.refused("write(0, 1, 8), as before", BRIM, x -> x.write(0, 1, 8), FULL);
        check.refused("write(1, 1, 9999)", BRIM, x -> x.write(1, 1, 9999), FULL);
    }

    // ---- draws, images

    private static void promises25To27() {
        check.sentence("Promise 25, seed: v 0 .. 2147483647");
        numbers("seed", OUTSIDE, USED, (x, v) -> x.seed(v), -1);
        numbers("seed", OUTSIDE, NEW, (x, v) -> x.seed(v), -1);
        check.sentence("Promise 26, keep: IMAGES 0, 1");
        numbers("keep", UNKNOWN, USED, (x, v) -> x.keep(v), -1, 2);
        numbers("keep", UNKNOWN, NEW, (x, v) -> x.keep(v), -1, 2);
        check.sentence("Promise 27, goBack: IMAGES 0, 1; UNKNOWN first, then NOT");
        numbers("goBack", UNKNOWN, USED, (x, v) -> x.goBack(v), -1, 2);
        numbers("goBack", UNKNOWN, EMPTY, (x, v) -> x.goBack(v), -1, 2);
        check.sentence("Promise 27, goBack: NOT: it was not kept");
        check.refused("goBack(1)", USED, x -> x.goBack(1), NOT);
        check.refused("goBack(1) without cells", NEW, x -> x.goBack(1), NOT);
        check.sentence("Promises 3 and 27: NOT: IMAGES are gone by a new meadow");
        check.refused("goBack(0) without cells again", EMPTY, x -> x.goBack(0), NOT);
        check.refused("goBack(1) without cells again", EMPTY, x -> x.goBack(1), NOT);
    }
}
