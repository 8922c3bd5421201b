/** The edges that Terms 3 (ODDS, MEAN, CLOVER, RESTS, LICK, FAIREST, WATCH) and promises 13 to 19 name. */
public final class EdgesOddsTest {
    private static final Check check = new Check();
    private static final int NONE = Check.NONE;
    private static final int BILLION = 1000000000;
    /** Likings 3 and 1, she wakes in the west: 3 of 4 stay. By the west PARISH 0 has 0, by the east 99. */
    private static final String TWO = "meadow 2 1;grass 1 0 0;tithe 0 0 99;tithe 1 0 20;cow 0 0 1;";

    public static void main(String[] args) {
        terms3HoursOfOdds();
        terms3OddsAreABillion();
        terms3PartsAreCut();
        terms3GreatNumbers();
        terms3GrassAsItIsNow();
        terms3MeanForNHours();
        terms3MeanIsCutAtTheEnd();
        terms3CloverIsEighteenAtMost();
        terms3BestCloverIsTheFirst();
        terms3BestCloverTries();
        terms3RestsAtOnce();
        terms3RestsTwiceOnOneCell();
        terms3RestsRounds();
        terms3LickIsPutElsewhere();
        terms3FairestIsTheFirst();
        terms3WatchHours();
        terms3WatchIsTheLaterHourTheFirstCell();
        promise13Odds();
        promise14Mean();
        promise15Clover();
        promise16Rests();
        promise17Worth();
        promise18Fairest();
        promise19Watch();
        triedLeavesAll();
        check.end();
    }

    // ---- Terms 3

    private static void terms3HoursOfOdds() {
        check.sentence("Terms 3: h hours from where she wakes (h 0 .. 12)");
        CowLies x = Check.of("meadow 9 1;cow 0 0 1;likes 0 0 0 0;");
        for (int h = 0; h <= 12; h++) {
            for (int column = 0; column < 9; column++) {
                boolean near = column <= h;
                check.due("reached " + column + " by hour " + h, x.odds(column, 0, h) > 0 ? 1 : 0, near ? 1 : 0);
            }
        }
        check.due("hour 0 where she wakes", x.odds(0, 0, 0), BILLION);
        check.due("hour 0 elsewhere", x.odds(1, 0, 0), 0);
        // halves, then a half and thirds of a half
        check.due("hour 1", x.odds(1, 0, 1), 500000000);
        check.due("hour 2", x.odds(0, 0, 2), 250000000 + 166666668);
        CowLies led = Check.of("meadow 9 1;cow 0 0 8;");
        led.lead(8, 0);
        check.due("from where she wakes now", led.odds(8, 0, 0), BILLION);
        led.day(1);
        int noon = led.told(6);
        check.due("from where she lay", led.odds(noon / 10, noon % 10, 0), BILLION);
    }

    private static void terms3OddsAreABillion() {
        check.sentence("Terms 3: of a BILLION");
        CowLies x = Check.of("meadow 3 3;cow 1 1 3;likes 7 3 5 9;thing flies 0 1;thing shade 2 2;grass 1 0 9;grass 2 1 4;");
        for (int h = 0; h <= 12; h++) {
            long all = 0;
            for (int c = 0; c < 9; c++) all += x.odds(c % 3, c / 3, h);
            check.due("all ODDS at hour " + h, all, BILLION);
        }
        // at hour 4 the one CELL has 1 of the BILLION, which goes to the last of those she may go to
        CowLies one = Check.of("meadow 5 3;likes 9 0 0 0;cow 0 1 1;grass 0 1 0;grass 1 1 0;grass 2 1 0;grass 3 1 0;grass 4 1 0;"
            + "grass 0 0 8;grass 1 0 6;grass 2 0 4;grass 3 0 7;");
        for (int column = 0; column < 5; column++) {
            one.sow(column, 2, 9);
            if (column % 2 == 0) one.sow(column, 0, 2);
        }
        check.due("the least that is there", one.odds(4, 1, 4), 1);
        long all = 0;
        for (int c = 0; c < 15; c++) all += one.odds(c % 5, c / 5, 5);
        check.due("it is not lost", all, BILLION);
    }

    /** Three in a row with likings 1: from the middle thirds, from the ends halves. */
    private static void terms3PartsAreCut() {
        check.sentence("Terms 3: times LIKING / all LIKINGS (cut), the rest for the last one");
        CowLies x = Check.of("meadow 3 1;cow 1 0 1;likes 0 0 0 0;");
        check.due("hour 1, west", x.odds(0, 0, 1), 333333334);
        check.due("hour 1, middle", x.odds(1, 0, 1), 333333333);
        check.due("hour 1, east", x.odds(2, 0, 1), 333333333);
        // west: 166666667 stay, 166666667 east; middle: 111111111 each; east: 166666666 stay, the rest west
        check.due("hour 2, west", x.odds(0, 0, 2), 166666667 + 111111111);
        check.due("hour 2, middle", x.odds(1, 0, 2), 166666667 + 111111111 + 166666667);
        check.due("hour 2, east", x.odds(2, 0, 2), 111111111 + 166666666);
        // likings 1 and 201: of a BILLION 4950495.04 and 995049504.9
        CowLies y = Check.of("meadow 2 1;grass 0 0 9;thing shade 0 0;thing water 0 0;grass 1 0 0;likes 9 9 9 0;cow 0 0 1;");
        y.sow(0, 0, 9);
        y.lick(0, 0);
        check.due("the greatest LIKING", y.cell(0, 0, 4), 201);
        check.due("201 of 202 stay", y.odds(0, 0, 1), 995049504);
        check.due("the rest goes", y.odds(1, 0, 1), 4950496);
        y.lead(1, 0);
        check.due("1 of 202 stays", y.odds(1, 0, 1), 4950495);
        check.due("the rest goes back", y.odds(0, 0, 1), 995049505);
    }

    private static void terms3GreatNumbers() {
        check.sentence("Terms 3: what is on each CELL times LIKING is more than an int");
        CowLies x = Check.of("meadow 3 3;grass 0 1 9;grass 1 0 9;grass 1 1 9;grass 1 2 9;grass 2 1 9;likes 9 0 0 0;cow 1 1 8;");
        // likings 163 of five alike
        for (int[] c : new int[][] {{1, 1}, {1, 0}, {2, 1}, {1, 2}, {0, 1}}) {
            x.sow(c[0], c[1], 9);
            check.due("LIKING", x.cell(c[0], c[1], 4), 163);
        }
        for (int[] c : new int[][] {{1, 1}, {1, 0}, {2, 1}, {1, 2}, {0, 1}}) {
            check.due("a fifth at " + c[0] + ", " + c[1], x.odds(c[0], c[1], 1), 200000000);
        }
    }

    private static void terms3GrassAsItIsNow() {
        check.sentence("Terms 3: GRASS as it is now, not eaten");
        CowLies x = Check.of("meadow 2 1;grass 0 0 9;grass 1 0 0;likes 1 0 0 0;cow 0 0 8;");
        // likings 10 and 1 for all hours
        check.due("hour 1", x.odds(0, 0, 1), 909090909);
        check.due("hour 2", x.odds(0, 0, 2), 826446280 + (90909091 - 8264462));
        x.day(1);
        x.lead(0, 0);
        int west = 1 + x.cell(0, 0, 0);
        int east = 1 + x.cell(1, 0, 0);
        check.due("less at first", x.cell(0, 0, 1), 9);
        check.due("as it is now", x.odds(0, 0, 1), (long) BILLION * west / (west + east));
    }

    private static void terms3MeanForNHours() {
        check.sentence("Terms 3: MEAN of a PARISH: for N hours");
        // by column X parish 0 has the tithes of the columns west of it: in the east 20 of 21
        for (int n = 1; n <= 8; n++) {
            CowLies x = Check.of("meadow 9 1;tithe 0 0 99;likes 0 0 0 0;cow 0 0 " + n + ";");
            long first = 0;
            for (int column = 0; column < 9; column++) first += (long) x.odds(column, 0, n) * x.tithes(0, column, 0);
            check.due("MEAN of PARISH 0, N " + n, x.mean(0), first / BILLION);
            if (n == 1) check.due("half of 99", x.mean(0), 49);
        }
        check.sentence("Terms 3: MEAN of a PARISH by LAW now, she waking where she does now");
        CowLies x = Check.of("meadow 1 3;tithe 0 0 10;tithe 0 1 20;tithe 0 2 40;cow 0 1 1;likes 0 0 0 0;");
        // thirds by 10, 30 and none
        check.due("LAW 0", x.mean(0), 13);
        x.lead(0, 0);
        // halves by none and 10
        check.due("led", x.mean(0), 5);
        check.due("led, PARISH 1", x.mean(1), 65);
    }

    private static void terms3MeanIsCutAtTheEnd() {
        check.sentence("Terms 3: TITHES by each CELL times ODDS / BILLION, added up ahead of /");
        // thirds of 0, 1, 2: 333333333 and 666666666 are less than a BILLION
        CowLies x = Check.of("meadow 3 1;cow 1 0 1;likes 0 0 0 0;tithe 0 0 1;tithe 1 0 1;tithe 2 0 0;");
        check.due("one less than a BILLION", x.mean(0), 0);
        // PARISH 1 has 2, 1, 0: 666666668 and 333333333
        check.due("one more than a BILLION", x.mean(1), 1);
        CowLies sure = Check.of("meadow 1 1;tithe 0 0 99;");
        check.due("the one CELL is PARISH 1's", sure.mean(1), 99);
        check.due("PARISH 0 has none", sure.mean(0), 0);
        CowLies none = Check.of("meadow 1 1;tithe 0 0 0;");
        check.due("no tithes", none.mean(1), 0);
        // halves of 99 and 0 are 49.5 each: the cut of both
        CowLies half = Check.of("meadow 2 1;tithe 0 0 99;tithe 1 0 0;cow 0 0 1;");
        check.due("PARISH 0", half.mean(0), 49);
        check.due("PARISH 1", half.mean(1), 49);
        StringBuilder rich = new StringBuilder("meadow 8 5;");
        for (int i = 0; i < 20; i++) rich.append("tithe").append(i % 8).append(' ').append(i / 8).append(" 99;");
        CowLies all = Check.of(rich + "grass0 0 9;likes9 0 0 0;");
        for (int i = 0; i < 2; i++) all.sow(0, 0, 9);
        check.holds("almost all of 2000", all.mean(1) > 1500);
        check.due("of both", all.mean(0) + all.mean(1), 1999);
    }

    private static void terms3CloverIsEighteenAtMost() {
        check.sentence("Terms 3: CLOVER: GRASS k more there (18 at most), tried alike");
        // grass 10 in the east: 8 and 9 more are both 18: likings 3 and 37 of 40: 99 by 925000000
        CowLies x = Check.of("meadow 2 1;grass 1 0 9;tithe 0 0 99;cow 0 0 1;");
        x.sow(1, 0, 1);
        int mean = x.mean(0);
        check.due("MEAN: 21 of 24", mean, 86);
        check.due("by 7", x.clover(0, 7, 1), 91 - mean);
        check.due("by 8", x.clover(0, 8, 1), 91 - mean);
        check.due("by 9", x.clover(0, 9, 1), 91 - mean);
        CowLies y = Check.of("meadow 2 1;grass 1 0 9;tithe 0 0 99;cow 0 0 1;likes 9 0 0 0;");
        // likings 10 and 82: 88.2; 10 and 163: 93.2; 10 and 154: 92.9
        check.due("9 and 9", y.clover(0, 9, 1), 93 - 88);
        y.sow(1, 0, 1);
        check.due("10 and 9 is 18, too", y.mean(0) + y.clover(0, 9, 1), 93);
        y.sow(1, 0, 8);
        check.due("where it is 18 nothing is gained", y.clover(0, 9, 1), 0);
    }

    /** By law 2 the CELLS 1, 0 and 0, 1 are alike; she wakes in the corner for an hour. */
    private static void terms3BestCloverIsTheFirst() {
        check.sentence("Terms 3: BEST CLOVER: of like ones the first (Y by Y, X rising)");
        CowLies x = Check.of("meadow 2 2;tithe 0 0 50;tithe 1 0 0;tithe 0 1 0;tithe 1 1 0;cow 0 0 1;");
        x.law(2);
        for (int k = 1; k <= 9; k++) {
            check.due("1, 0 and 0, 1 are alike by " + k, x.clover(0, k, 0), 10);
            check.due("the corner alone by " + k, x.clover(1, k, 0), 0);
        }
        // stay 333333333 of a BILLION: 50 by 666666667; by 9 3 of 27
        check.due("MEAN", x.mean(0), 33);
        check.due("gained by 9", x.clover(0, 9, 1), 44 - 33);
        check.due("PARISH 1 by 9: 21 of 27", x.clover(1, 9, 1), 38 - 16);
        // what is out of reach is as good as nothing, and the last ones are best
        CowLies last = Check.of("meadow 4 1;cow 3 0 1;tithe 0 0 10;tithe 1 0 10;tithe 2 0 10;tithe 3 0 10;");
        check.due("the last CELL", last.clover(0, 1, 0), 30);
        check.due("the one ahead of it", last.clover(1, 1, 0), 20);
    }

    private static void terms3BestCloverTries() {
        check.sentence("Terms 3: BEST CLOVER: by which, sown (tried), its MEAN is greatest; what it gains");
        for (int law = 0; law <= 2; law++) {
            for (int lick = NONE; lick < 6; lick++) {
                CowLies x = Check.of("meadow 3 2;grass 0 0 5;thing water 1 1;tithe 0 0 30;tithe 2 1 11;tithe 1 0 9;cow 1 0 4;likes 3 1 2 4;");
                x.law(law);
                if (lick != NONE) x.lick(lick % 3, lick / 3);
                for (int parish = 0; parish <= 1; parish++) {
                    for (int k = 1; k <= 9; k += 4) bestByHand(x, parish, k);
                }
            }
        }
    }

    /** Sows really, each CELL, and goes back each time. */
    private static void bestByHand(CowLies made, int parish, int k) {
        int mean = made.mean(parish);
        int best = NONE;
        int most = 0;
        made.keep(1);
        for (int c = 0; c < 6; c++) {
            made.sow(c % 3, c / 3, k);
            int by = made.mean(parish);
            made.goBack(1);
            if (best != NONE && by <= most) continue;
            best = 10 * (c % 3) + c / 3;
            most = by;
        }
        check.due("clover(" + parish + ", " + k + ", 0)", made.clover(parish, k, 0), best);
        check.due("clover(" + parish + ", " + k + ", 1)", made.clover(parish, k, 1), most - mean);
    }

    private static void terms3RestsAtOnce() {
        check.sentence("Terms 3: RESTS: till a round changes nothing: how many changed something");
        CowLies x = Check.of(TWO);
        for (int k = 1; k <= 9; k++) {
            check.due("no round changes anything, k " + k, x.rests(NONE, k), 0);
            check.due("PARISH 0, k " + k, x.rests(0, k), 10);
            check.due("PARISH 1, k " + k, x.rests(1, k), 0);
        }
        CowLies one = Check.of("meadow 1 1;");
        check.due("one CELL", one.rests(NONE, 9), 0);
        check.due("PARISH 0 on one CELL", one.rests(0, 9), 0);
        check.due("PARISH 1 on one CELL", one.rests(1, 9), 0);
    }

    private static void terms3RestsTwiceOnOneCell() {
        check.sentence("Terms 3: RESTS: each PARISH has one CELL sown with k (k twice, if it is one)");
        // no tithes: all are alike, both take the first CELL
        CowLies x = Check.of("meadow 3 1;tithe 0 0 0;tithe 1 0 0;tithe 2 0 0;");
        check.due("PARISH 0", x.rests(0, 9), 0);
        check.due("PARISH 1", x.rests(1, 9), 0);
        check.due("rounds", x.rests(NONE, 9), 0);
        for (String text : RESTING) restsByHand(text);
    }

    private static final String[] RESTING = {
        "meadow 3 2;grass 0 0 5;thing water 1 1;tithe 0 0 30;tithe 2 1 11;tithe 1 0 9;cow 1 0 4;likes 3 1 2 4;",
        "meadow 4 1;cow 2 0 1;", "meadow 4 1;cow 1 0 3;tithe 2 0 9;", "meadow 1 3;cow 0 0 6;",
        "meadow 2 2;tithe 1 0 92;grass 0 1 4;cow 0 0 6;", "meadow 2 3;tithe 1 0 9;tithe 0 2 40;grass 0 1 4;cow 1 1 2;",
        "meadow 4 2;cow 2 1 5;grass 3 0 9;thing flies 1 1;tithe 1 1 60;tithe 3 0 20;"};

    /** Sows really, for each PARISH what the other one has and then each CELL. */
    private static void restsByHand(String text) {
        for (int law = 0; law <= 2; law++) {
            for (int k = 1; k <= 9; k += 4) {
                int first = bestAgainst(text, law, k, 0, NONE);
                int second = bestAgainst(text, law, k, 1, NONE);
                int rounds = NONE;
                for (int round = 0; round < 20 && rounds == NONE; round++) {
                    int nextFirst = bestAgainst(text, law, k, 0, second);
                    int nextSecond = bestAgainst(text, law, k, 1, nextFirst);
                    if (nextFirst == first && nextSecond == second) rounds = round;
                    first = nextFirst;
                    second = nextSecond;
                }
                CowLies x = Check.of(text);
                x.law(law);
                String of = " by " + k + ", LAW " + law + " of " + text;
                check.due("rounds" + of, x.rests(NONE, k), rounds);
                check.due("PARISH 0" + of, x.rests(0, k), rounds == NONE ? NONE : first);
                check.due("PARISH 1" + of, x.rests(1, k), rounds == NONE ? NONE : second);
            }
        }
    }

    private static int bestAgainst(String text, int law, int k, int parish, int other) {
        CowLies x = Check.of(text);
        x.law(law);
        if (other != NONE) x.sow(other / 10, other % 10, k);
        x.keep(0);
        int best = NONE;
        int most = 0;
        for (int y = 0; y < x.told(1); y++) {
            for (int column = 0; column < x.told(0); column++) {
                x.sow(column, y, k);
                int mean = x.mean(parish);
                x.goBack(0);
                if (best != NONE && mean <= most) continue;
                best = 10 * column + y;
                most = mean;
            }
        }
        return best;
    }

    private static void terms3RestsRounds() {
        check.sentence("Terms 3: RESTS: 20 rounds are tried at most; NONE: all 20 did");
        int[] rounds = {roundsOf("meadow 2 1;", 0, 1), roundsOf("meadow 1 3;cow 0 0 6;", 1, 9),
            roundsOf("meadow 2 2;tithe 1 0 92;grass 0 1 4;cow 0 0 6;", 1, 4)};
        for (int i = 0; i < rounds.length; i++) check.due("rounds that changed something", rounds[i], i);
        CowLies never = Check.of("meadow 4 1;cow 2 0 1;");
        never.law(1);
        check.due("round by round the same again", never.rests(NONE, 1), NONE);
        check.due("never: PARISH 0", never.rests(0, 1), NONE);
        check.due("never: PARISH 1", never.rests(1, 1), NONE);
    }

    private static int roundsOf(String text, int law, int k) {
        CowLies x = Check.of(text);
        x.law(law);
        return x.rests(NONE, k);
    }

    private static void terms3LickIsPutElsewhere() {
        check.sentence("Terms 3: what the LICK is worth: MEAN, if it were there, less MEAN now");
        CowLies x = Check.of(TWO);
        // none: 24; in the east 3 of 24 stay: 86; in the west 23 of 24: 4
        check.due("none yet: in the east", x.worth(0, 1, 0), 86 - 24);
        check.due("none yet: in the west", x.worth(0, 0, 0), 4 - 24);
        x.lick(0, 0);
        check.due("where it is", x.worth(0, 0, 0), 0);
        check.due("it is in one place alone", x.worth(0, 1, 0), 86 - 4);
        x.lick(1, 0);
        check.due("back", x.worth(0, 0, 0), 4 - 86);
        // PARISH 1: 119 less 99 by the east, cut: none 94; east 32; west 114
        check.due("PARISH 1 where it is", x.worth(1, 1, 0), 0);
        check.due("PARISH 1 back", x.worth(1, 0, 0), 114 - 32);
    }

    private static void terms3FairestIsTheFirst() {
        check.sentence("Terms 3: FAIREST: by which the MEANS of both differ least; of like ones the first");
        // by law 2 PARISH 0 has 0 by the corner, else 50 of 100: the less she stays the less they differ
        CowLies x = Check.of("meadow 2 2;tithe 0 0 50;tithe 1 0 0;tithe 0 1 0;tithe 1 1 50;cow 0 0 1;");
        x.law(2);
        check.due("1, 0 and 0, 1 are alike", x.fairest(0), 10);
        // 3 of 29 stay: 103448275: 44.8 and 55.1
        check.due("by how much", x.fairest(1), 55 - 44);
        CowLies one = Check.of("meadow 1 1;tithe 0 0 99;");
        check.due("one CELL", one.fairest(0), 0);
        check.due("PARISH 1 has all", one.fairest(1), 99);
        CowLies none = Check.of("meadow 3 3;likes 0 0 0 0;tithe 0 0 0;tithe 1 0 0;tithe 2 0 0;tithe 0 1 0;tithe 1 1 0;tithe 2 1 0;"
            + "tithe 0 2 0;tithe 1 2 0;tithe 2 2 0;");
        check.due("all alike", none.fairest(0), 0);
        check.due("they differ by nothing", none.fairest(1), 0);
        // the last CELL: the farther east she lies the more PARISH 0 has
        CowLies last = Check.of("meadow 3 1;tithe 0 0 10;tithe 1 0 10;tithe 2 0 20;cow 1 0 1;");
        check.due("the last", last.fairest(0), 20);
    }

    private static void terms3WatchHours() {
        check.sentence("Terms 3: WATCH: the hour 1 to N");
        for (int n = 1; n <= 8; n++) {
            CowLies one = Check.of("meadow 1 1;cow 0 0 " + n + ";");
            check.due("of like hours the later, N " + n, one.watch(0), n);
            check.due("that CELL", one.watch(1), 0);
            check.due("its ODDS", one.watch(2), BILLION);
            // hour 0 is not watched, hours behind N are not: she comes to the lick the more the later
            CowLies x = Check.of("meadow 3 1;cow 0 0 " + n + ";likes 0 0 0 0;");
            x.lick(2, 0);
            int most = 0;
            for (int h = 1; h <= n; h++) {
                for (int column = 0; column < 3; column++) most = Math.max(most, x.odds(column, 0, h));
            }
            check.due("the greatest ODDS, N " + n, x.watch(2), most);
            if (n >= 3) check.due("the last hour, N " + n, x.watch(0), n);
        }
        CowLies hours = Check.of("meadow 3 1;cow 0 0 1;likes 0 0 0 0;");
        hours.lick(2, 0);
        check.due("at hour 1 half of a BILLION", hours.watch(2), 500000000);
        check.due("the first CELL of two", hours.watch(1), 0);
    }

    private static void terms3WatchIsTheLaterHourTheFirstCell() {
        check.sentence("Terms 3: WATCH: of like ones the later; that CELL (the first)");
        // halves hour by hour on two cells
        CowLies x = Check.of("meadow 2 1;cow 1 0 5;likes 0 0 0 0;");
        check.due("of five like hours", x.watch(0), 5);
        check.due("of two like CELLS", x.watch(1), 0);
        check.due("their ODDS", x.watch(2), 500000000);
        CowLies column = Check.of("meadow 1 2;cow 0 1 2;likes 0 0 0 0;");
        check.due("of two like CELLS below each other", column.watch(1), 0);
        // in the corner of two by two: thirds, the last one one more: south
        CowLies corner = Check.of("meadow 2 2;cow 0 0 1;likes 0 0 0 0;");
        check.due("the rest is the greatest", corner.watch(1), 1);
        check.due("its ODDS", corner.watch(2), 333333334);
        // Y by Y, X rising: north and east of the south-west corner: 1 each, stay none more
        CowLies tie = Check.of("meadow 2 2;cow 0 1 1;likes 1 0 0 0;grass 0 1 0;grass 0 0 3;grass 1 1 3;grass 1 0 0;");
        // stay 1, north 4, east 4: north 444444444, east the rest
        check.due("east has the rest", tie.watch(1), 11);
        CowLies early = Check.of("meadow 9 1;cow 4 0 8;likes 0 0 0 0;");
        check.due("the first hour is best", early.watch(0), 1);
        check.due("its CELL", early.watch(1), 30);
        check.due("its ODDS", early.watch(2), 333333334);
    }

    // ---- promises 13 to 19: the least and the greatest that is taken

    private static void promise13Odds() {
        check.sentence("Promise 13: ODDS, h 0 .. 12");
        CowLies x = Check.of(TWO);
        check.due("odds(0, 0, 0)", x.odds(0, 0, 0), BILLION);
        check.due("odds(1, 0, 0)", x.odds(1, 0, 0), 0);
        for (int h = 1; h <= 12; h++) {
            check.due("odds(0, 0, " + h + ")", x.odds(0, 0, h), 750000000);
            check.due("odds(1, 0, " + h + ")", x.odds(1, 0, h), 250000000);
        }
    }

    private static void promise14Mean() {
        check.sentence("Promise 14: MEAN of a PARISH");
        CowLies x = Check.of(TWO);
        check.due("mean(0)", x.mean(0), 24);
        check.due("mean(1)", x.mean(1), 94);
        x.day(3);
        CowLies y = Check.of("meadow 2 1;");
        y.sow(1, 0, 9);
        y.lick(1, 0);
        // likings 3 and 41: 1 by 931818182 and the like
        check.due("mean(0) by clover and lick", y.mean(0), 0);
        check.due("mean(1) by clover and lick", y.mean(1), 1);
    }

    private static void promise15Clover() {
        check.sentence("Promise 15: k 1 and 9, what 0 and 1, PARISH 0 and 1");
        CowLies x = Check.of(TWO);
        check.due("clover(0, 1, 0)", x.clover(0, 1, 0), 10);
        check.due("clover(0, 9, 0)", x.clover(0, 9, 0), 10);
        check.due("clover(1, 1, 0)", x.clover(1, 1, 0), 0);
        check.due("clover(1, 9, 0)", x.clover(1, 9, 0), 0);
        // 3 and 3: a half; 3 and 19: 863636364
        check.due("clover(0, 1, 1)", x.clover(0, 1, 1), 49 - 24);
        check.due("clover(0, 9, 1)", x.clover(0, 9, 1), 85 - 24);
        // 5 and 1: 833333333 by 119 and the rest by 20; 21 and 1: 954545454
        check.due("clover(1, 1, 1)", x.clover(1, 1, 1), 102 - 94);
        check.due("clover(1, 9, 1)", x.clover(1, 9, 1), 114 - 94);
    }

    private static void promise16Rests() {
        check.sentence("Promise 16: parish = NONE the rounds, else the CELL of a PARISH, as 10 times X and Y");
        CowLies x = Check.of("meadow 1 2;grass 0 1 0;tithe 0 0 99;tithe 0 1 20;cow 0 0 1;");
        check.due("rests(-1, 1)", x.rests(NONE, 1), 0);
        check.due("rests(0, 1)", x.rests(0, 1), 1);
        check.due("rests(1, 1)", x.rests(1, 1), 0);
        check.due("rests(0, 9)", x.rests(0, 9), 1);
    }

    private static void promise17Worth() {
        check.sentence("Promise 17: what the LICK is worth, below 0 too");
        CowLies x = Check.of("meadow 9 4;tithe 8 3 99;cow 8 3 1;");
        check.due("out of reach", x.worth(0, 0, 0), 0);
        check.due("out of reach, PARISH 1", x.worth(1, 0, 0), 0);
        // 33 others by the corner, three ways of likings 3: the lick at the corner draws her east
        check.holds("in the corner more for PARISH 0", x.worth(0, 8, 3) > 0);
        check.holds("in the corner less for PARISH 1", x.worth(1, 8, 3) < 0);
    }

    private static void promise18Fairest() {
        check.sentence("Promise 18: what = 0 the CELL, 1 by how much MEANS differ");
        CowLies x = Check.of(TWO);
        // in the east 86 and 32, in the west 4 and 114
        check.due("fairest(0)", x.fairest(0), 10);
        check.due("fairest(1)", x.fairest(1), 86 - 32);
        x.lick(0, 0);
        check.due("wherever the LICK is: fairest(0)", x.fairest(0), 10);
        check.due("wherever the LICK is: fairest(1)", x.fairest(1), 86 - 32);
    }

    private static void promise19Watch() {
        check.sentence("Promise 19: what = 0 the hour, 1 the CELL, 2 its ODDS");
        CowLies x = Check.of("meadow 1 3;grass 0 1 0;grass 0 2 9;cow 0 1 1;");
        // likings stay 1, north 3, south 19: 43478260, 130434782 and the rest
        check.due("watch(0)", x.watch(0), 1);
        check.due("watch(1)", x.watch(1), 2);
        check.due("watch(2)", x.watch(2), 826086958);
    }

    private static void triedLeavesAll() {
        check.sentence("Terms 3: tried: promises 13 to 19 leave all as it was");
        CowLies x = triedOn();
        for (int parish = 0; parish <= 1; parish++) {
            x.mean(parish);
            x.clover(parish, 9, 0);
            x.clover(parish, 9, 1);
            x.rests(parish, 9);
            x.worth(parish, 1, 1);
            x.fairest(parish);
        }
        x.rests(NONE, 1);
        x.odds(1, 1, 12);
        for (int what = 0; what <= 2; what++) x.watch(what);
        check.dueText("all", Check.allOf(x), Check.allOf(triedOn()));
    }

    private static CowLies triedOn() {
        CowLies x = Check.of("meadow 3 2;grass 0 0 5;thing water 1 1;tithe 0 0 30;tithe 2 1 11;cow 1 0 4;");
        x.seed(9);
        x.day(1);
        x.lick(2, 0);
        x.keep(0);
        return x;
    }
}
