/** Promises 13 to 19: odds, mean, clover, rests, worth, fairest, watch; their edges stand in EdgesOddsTest. */
public final class OddsTest {
    private static final Check check = new Check();
    private static final int NONE = Check.NONE, UNKNOWN = Check.UNKNOWN, OUTSIDE = Check.OUTSIDE;
    private static final int BILLION = 1000000000;

    public static void main(String[] args) {
        oddsByHand();
        theRestIsForTheLast();
        oddsAddUp();
        oddsAreRefused();
        means();
        clover();
        rests();
        roundsAndNever();
        worth();
        fairest();
        watch();
        check.end();
    }

    /** Promise 13: likings 3 and 1. */
    private static void oddsByHand() {
        CowLies x = Check.of("meadow 2 1;grass 1 0 0;cow 0 0 1;");
        check.due("odds(0, 0, 0)", x.odds(0, 0, 0), BILLION);
        check.due("odds(1, 0, 0)", x.odds(1, 0, 0), 0);
        check.due("odds(0, 0, 1)", x.odds(0, 0, 1), 750000000);
        check.due("odds(1, 0, 1)", x.odds(1, 0, 1), 250000000);
        x.lead(1, 0);
        // from the east: stay 1 of 4, west the rest
        check.due("odds(1, 0, 1) led", x.odds(1, 0, 1), 250000000);
        x.lick(1, 0);
        // likings 3 and 21
        check.due("odds(1, 0, 1) with the lick", x.odds(1, 0, 1), 875000000);
        // the hours are not bound by N
        check.due("odds(0, 0, 2)", x.odds(0, 0, 2), 125000000);
        CowLies one = Check.of("meadow 1 1;");
        check.due("on one cell", one.odds(0, 0, 12), BILLION);
        // the grass is as it is now, what she would eat on her way is not counted
        CowLies eaten = Check.of("meadow 2 1;grass 0 0 9;grass 1 0 0;cow 0 0 8;likes 1 0 0 0;");
        check.due("likings 10 and 1", eaten.odds(0, 0, 1), 909090909);
        check.due("likings 10 and 1, twice", eaten.odds(1, 0, 2), 82644629 + 8264462);
        eaten.day(1);
        int grass = eaten.cell(0, 0, 0);
        eaten.lead(0, 0);
        check.due("eaten grass counts", eaten.odds(0, 0, 1), 1000000000L * (1 + grass) / (2 + grass + eaten.cell(1, 0, 0)));
    }

    /** Promise 13: times LIKING / all LIKINGS (cut), the rest for the last one. */
    private static void theRestIsForTheLast() {
        CowLies row = Check.of("meadow 3 1;cow 1 0 1;");
        check.due("stay", row.odds(1, 0, 1), 333333333);
        check.due("east", row.odds(2, 0, 1), 333333333);
        check.due("west is the last", row.odds(0, 0, 1), 333333334);
        CowLies corner = Check.of("meadow 2 2;");
        check.due("stay", corner.odds(0, 0, 1), 333333333);
        check.due("east", corner.odds(1, 0, 1), 333333333);
        check.due("south is the last", corner.odds(0, 1, 1), 333333334);
        CowLies column = Check.of("meadow 1 3;cow 0 2 1;grass 0 1 0;");
        check.due("stay 3 of 4", column.odds(0, 2, 1), 750000000);
        check.due("north is the last", column.odds(0, 1, 1), 250000000);
        CowLies cross = Check.of("meadow 3 3;cow 1 1 1;likes 0 0 0 0;");
        cross.lick(1, 1);
        check.due("stay 21 of 25", cross.odds(1, 1, 1), 840000000);
        check.due("north 1 of 25", cross.odds(1, 0, 1), 40000000);
    }

    /** Promise 13: of a BILLION. */
    private static void oddsAddUp() {
        CowLies x = null;
        for (int h = 0; h <= 12; h++) {
            x = Check.of("meadow 8 5;cow 3 2 8;likes 9 9 9 9;thing flies 3 3;thing water 5 1;grass 7 4 9;");
            x.sow(7, 4, 9);
            long all = 0;
            for (int y = 0; y < 5; y++) {
                for (int column = 0; column < 8; column++) all += x.odds(column, y, h);
            }
            check.due("all odds at hour " + h, all, BILLION);
        }
        check.due("too far yet", x.odds(7, 4, 5), 0);
        check.holds("reached", x.odds(7, 4, 6) > 0);
    }

    /** Promise 13: UNKNOWN, OUTSIDE. */
    private static void oddsAreRefused() {
        CowLies x = Check.of("meadow 2 2;");
        check.due("odds(0, 0, 13)", x.odds(0, 0, 13), OUTSIDE);
        check.due("odds(0, 0, -1)", x.odds(0, 0, -1), OUTSIDE);
        check.due("odds(2, 0, 13)", x.odds(2, 0, 13), UNKNOWN);
        check.due("odds(0, 2, 0)", x.odds(0, 2, 0), UNKNOWN);
        check.due("odds(-1, 0, 0)", x.odds(-1, 0, 0), UNKNOWN);
    }

    /** Promise 14. Borders by 0, 0: all to the east; by 1, 0: 0, 0 to the west. */
    private static void means() {
        CowLies x = Check.of("meadow 2 1;grass 1 0 0;tithe 0 0 10;tithe 1 0 20;cow 0 0 1;");
        check.due("mean(0): 10 by a quarter, cut", x.mean(0), 2);
        check.due("mean(1): 30 by three quarters and 20 by one", x.mean(1), 27);
        check.due("mean(2)", x.mean(2), UNKNOWN);
        check.due("mean(-1)", x.mean(-1), UNKNOWN);
        x.law(1);
        check.due("law 1: mean(0)", x.mean(0), 2);
        x.law(2);
        check.due("law 2: mean(0)", x.mean(0), 2);
        // added up ahead of the division: 3 cells with a third each
        CowLies row = Check.of("meadow 3 1;cow 1 0 1;tithe 0 0 1;tithe 1 0 0;tithe 2 0 1;");
        // by 0,0: 0, 2; by 1,0: 1, 1; by 2,0: 1, 1
        check.due("mean(0): 2 thirds, cut", row.mean(0), 0);
        check.due("mean(1): 4 thirds, cut", row.mean(1), 1);
        CowLies hours = Check.of("meadow 2 1;grass 1 0 0;cow 0 0 2;tithe 0 0 99;");
        check.due("mean for N hours: 99 by a quarter", hours.mean(0), 24);
    }

    /** Promise 15: sown in the east with 9: 1 + 2 * 9 = 19 of 22 together. */
    private static void clover() {
        CowLies fresh = Check.of("meadow 2 1;grass 1 0 0;tithe 0 0 99;tithe 1 0 20;cow 0 0 1;");
        check.due("clover of a new one", fresh.clover(0, 9, 0), 10);
        CowLies x = Check.of("meadow 2 1;grass 1 0 0;tithe 0 0 99;tithe 1 0 20;cow 0 0 1;");
        check.due("mean(0)", x.mean(0), 24);
        check.due("clover(0, 9, 0)", x.clover(0, 9, 0), 10);
        // 1000000000 * 3 / 22 = 136363636 stay: 863636364 * 99 = 85.5
        check.due("clover(0, 9, 1)", x.clover(0, 9, 1), 85 - 24);
        check.due("clover(0, 1, 1): 3 of 6", x.clover(0, 1, 1), 49 - 24);
        // parish 1: 119 by the west, 20 by the east: sown in the west
        check.due("mean(1)", x.mean(1), 94);
        check.due("clover(1, 9, 0)", x.clover(1, 9, 0), 0);
        // 21 of 22 stay: 954545454 * 119 + 45454546 * 20 = 114.5
        check.due("clover(1, 9, 1)", x.clover(1, 9, 1), 20);
        check.due("nothing is sown", x.cell(1, 0, 0), 0);
        check.due("nothing is sown at first", x.cell(1, 0, 1), 0);
        CowLies alike = Check.of("meadow 2 2;tithe 0 0 0;tithe 1 0 0;tithe 0 1 0;tithe 1 1 0;");
        check.due("of like ones the first", alike.clover(0, 5, 0), 0);
        check.due("nothing gained", alike.clover(0, 5, 1), 0);
        CowLies below = Check.of("meadow 1 1;tithe 0 0 50;");
        check.due("one cell gains nothing", below.clover(1, 9, 1), 0);
        nothingToGain();
        check.due("clover(2, 1, 0)", x.clover(2, 1, 0), UNKNOWN);
        check.due("clover(-1, 0, 0)", x.clover(-1, 0, 0), UNKNOWN);
        check.due("clover(0, 0, 0)", x.clover(0, 0, 0), OUTSIDE);
        check.due("clover(0, 10, 0)", x.clover(0, 10, 0), OUTSIDE);
        check.due("clover(0, 1, 2)", x.clover(0, 1, 2), OUTSIDE);
        check.due("clover(0, 1, -1)", x.clover(0, 1, -1), OUTSIDE);
    }

    /** Promise 15: where no clover changes anything. */
    private static void nothingToGain() {
        // parish 1 has 40 by either border
        CowLies x = Check.of("meadow 2 1;grass 0 0 9;grass 1 0 9;tithe 0 0 0;tithe 1 0 40;cow 0 0 1;");
        check.due("no border changes what parish 1 has", x.mean(1), 40);
        check.due("clover(1, 9, 0)", x.clover(1, 9, 0), 0);
        check.due("clover(1, 9, 1)", x.clover(1, 9, 1), 0);
        CowLies full = Check.of("meadow 1 1;grass 0 0 9;");
        full.sow(0, 0, 9);
        check.due("clover on full grass", full.clover(0, 9, 1), 0);
    }

    /** Promise 16. */
    private static void rests() {
        CowLies fresh = Check.of("meadow 1 3;cow 0 0 6;");
        fresh.law(1);
        check.due("rests of a new one", fresh.rests(NONE, 9), 1);
        CowLies x = Check.of("meadow 2 1;grass 1 0 0;tithe 0 0 99;tithe 1 0 20;cow 0 0 1;");
        check.due("rests(-1, 9)", x.rests(-1, 9), 0);
        check.due("rests(0, 9)", x.rests(0, 9), 10);
        check.due("rests(1, 9)", x.rests(1, 9), 0);
        check.due("nothing is sown", x.cell(1, 0, 0), 0);
        CowLies one = Check.of("meadow 1 1;");
        check.due("one cell: rests(-1, 1)", one.rests(-1, 1), 0);
        check.due("one cell: rests(0, 1)", one.rests(0, 1), 0);
        check.due("one cell: rests(1, 1)", one.rests(1, 1), 0);
        check.due("rests(2, 1)", x.rests(2, 1), UNKNOWN);
        check.due("rests(-2, 0)", x.rests(-2, 0), UNKNOWN);
        check.due("rests(-1, 0)", x.rests(-1, 0), OUTSIDE);
        check.due("rests(1, 10)", x.rests(1, 10), OUTSIDE);
    }

    /** Promise 16: meadows of which neither rests at once, and one of which neither ever does. */
    private static void roundsAndNever() {
        /*
         * By hand: tithes of parish 0 by X are X. As if the other sowed nothing 3 is best for parish 0
         * and 0 (of like ones) for parish 1. Against 3 parish 1 takes 1, against 1 parish 0 takes 0,
         * against 0 parish 1 takes 0 and parish 0 takes 3 again: so round by round.
         */
        restsOf("meadow 4 1;cow 2 0 1;", 1, 1, NONE);
        restsOf("meadow 1 3;cow 0 0 6;", 1, 9, 1);
        restsOf("meadow 2 2;tithe 1 0 92;grass 0 1 4;cow 0 0 6;", 1, 4, 2);
        restsOf("meadow 4 3;tithe 0 0 88;grass 1 0 3;tithe 2 0 42;tithe 3 0 72;tithe 0 1 68;tithe 1 1 92;grass 1 1 5;"
            + "tithe 2 1 19;tithe 3 1 58;grass 3 1 7;grass 0 2 5;tithe 1 2 39;tithe 2 2 41;tithe 3 2 95;cow 1 2 5;likes 6 3 3 4;", 1, 5, 3);
    }

    private static void restsOf(String text, int law, int k, int rounds) {
        CowLies x = Check.of(text);
        Model model = new Model();
        for (int c = 0; c < text.length(); c++) model.feed(1, text.charAt(c));
        model.meadow();
        x.law(law);
        model.law(law);
        check.due("rounds of " + text, x.rests(NONE, k), rounds);
        for (int parish = 0; parish <= 1; parish++) {
            check.due("rests(" + parish + ") of " + text, x.rests(parish, k), rounds == NONE ? NONE : model.rests(parish, k));
        }
    }

    /** Promise 17. */
    private static void worth() {
        CowLies fresh = Check.of("meadow 2 1;grass 1 0 0;tithe 0 0 99;tithe 1 0 20;cow 0 0 1;");
        check.due("worth of a new one", fresh.worth(0, 1, 0), 86 - 24);
        CowLies x = Check.of("meadow 2 1;grass 1 0 0;tithe 0 0 99;tithe 1 0 20;cow 0 0 1;");
        // with the lick in the east 3 of 24 stay: 875000000 * 99 = 86.6
        check.due("worth(0, 1, 0)", x.worth(0, 1, 0), 86 - 24);
        // with the lick in the west 23 of 24 stay: 41666667 * 99 = 4.1
        check.due("worth(0, 0, 0)", x.worth(0, 0, 0), 4 - 24);
        check.due("told(7)", x.told(7), NONE);
        x.lick(1, 0);
        check.due("where it is", x.worth(0, 1, 0), 0);
        check.due("if it were elsewhere", x.worth(0, 0, 0), 4 - 86);
        check.due("told(7)", x.told(7), 10);
        check.due("worth(2, 0, 0)", x.worth(2, 0, 0), UNKNOWN);
        check.due("worth(-1, 0, 0)", x.worth(-1, 0, 0), UNKNOWN);
        check.due("worth(0, 2, 0)", x.worth(0, 2, 0), UNKNOWN);
        check.due("worth(0, 0, 1)", x.worth(0, 0, 1), UNKNOWN);
    }

    /** Promise 18. */
    private static void fairest() {
        CowLies fresh = Check.of("meadow 2 1;grass 1 0 0;tithe 0 0 99;tithe 1 0 20;cow 0 0 1;");
        check.due("fairest of a new one", fresh.fairest(0), 10);
        // in the east: parish 0 86, parish 1 0.125 * 119 + 0.875 * 20 = 32: 54; in the west: 4 and 114
        CowLies x = Check.of("meadow 2 1;grass 1 0 0;tithe 0 0 99;tithe 1 0 20;cow 0 0 1;");
        check.due("fairest(0)", x.fairest(0), 10);
        check.due("fairest(1)", x.fairest(1), 54);
        check.due("told(7)", x.told(7), NONE);
        x.lick(0, 0);
        check.due("the lick is moved for it", x.fairest(1), 54);
        CowLies alike = Check.of("meadow 3 1;tithe 0 0 0;tithe 1 0 0;tithe 2 0 0;");
        check.due("of like ones the first", alike.fairest(0), 0);
        check.due("by nothing", alike.fairest(1), 0);
        check.due("fairest(2)", x.fairest(2), OUTSIDE);
        check.due("fairest(-1)", x.fairest(-1), OUTSIDE);
    }

    /** Promise 19. */
    private static void watch() {
        CowLies x = Check.of("meadow 2 1;grass 1 0 0;cow 0 0 3;");
        // 750000000 at hour 1; at hour 2 562500000 and 187500000; and so on: of like ones the later
        check.due("watch(0)", x.watch(0), 3);
        check.due("watch(1)", x.watch(1), 0);
        check.due("watch(2)", x.watch(2), 750000000);
        CowLies first = Check.of("meadow 3 1;cow 1 0 1;grass 1 0 0;");
        // stay 1 of 7: 142857142, east 428571428, west the rest
        check.due("watch(1)", first.watch(1), 0);
        check.due("watch(2)", first.watch(2), 428571430);
        CowLies two = Check.of("meadow 2 1;cow 0 0 1;");
        check.due("two alike: the first", two.watch(1), 0);
        two.lead(1, 0);
        check.due("two alike: the first, led", two.watch(1), 0);
        check.due("two alike: the odds", two.watch(2), 500000000);
        CowLies early = Check.of("meadow 5 1;cow 2 0 4;");
        check.due("the hour is not always the last", early.watch(0), 1);
        check.due("watch(3)", x.watch(3), OUTSIDE);
        check.due("watch(-1)", x.watch(-1), OUTSIDE);
    }
}
