/** Promises 20 to 24: see, lay, write, tear, judge; their edges stand in EdgesSeenTest. */
public final class SeenTest {
    private static final Check check = new Check();
    private static final int NONE = Check.NONE, OUTSIDE = Check.OUTSIDE;

    public static void main(String[] args) {
        seeing();
        laying();
        layingBySum();
        whatCannotBe();
        book();
        tearing();
        check.end();
    }

    /** Promise 20. */
    private static void seeing() {
        CowLies x = Check.of("meadow 3 2;");
        for (int i = 1; i <= 10; i++) check.due("see, the " + i + "th", x.see(0, 0, i == 1 ? 0 : 12), i);
        check.due("told(11)", x.told(11), 10);
    }

    /** Promise 21: cells reached, in their order. */
    private static void laying() {
        CowLies x = Check.of("meadow 5 3;cow 2 1 1;");
        int[] cross = {20, 11, 21, 31, 22};
        check.due("lay(-1, -1)", x.lay(-1, -1), 5);
        for (int i = 0; i < cross.length; i++) check.due("lay(-1, " + i + ")", x.lay(-1, i), cross[i]);
        check.due("lay(-1, 5): not so many", x.lay(-1, 5), NONE);
        check.due("lay(-1, greatest)", x.lay(-1, Integer.MAX_VALUE), NONE);
        check.due("lay(-1, -2)", x.lay(-1, -2), NONE);
        check.due("lay(-1, least)", x.lay(-1, Integer.MIN_VALUE), NONE);
        check.due("lay(-2, -1)", x.lay(-2, -1), OUTSIDE);
        check.due("lay(10000, -1)", x.lay(10000, -1), OUTSIDE);
        check.due("lay(9999, -1)", x.lay(9999, -1), 0);
        check.due("lay(9999, 0)", x.lay(9999, 0), NONE);
        x.lead(0, 0);
        check.due("in the corner", x.lay(NONE, NONE), 3);
        x.lead(4, 2);
        check.due("in the other corner", x.lay(NONE, NONE), 3);
        check.due("the first there", x.lay(NONE, 0), 41);
        // odds that are cut away leave what can be
        CowLies rare = Check.of("meadow 9 1;cow 0 0 8;likes 9 0 0 9;" + noGrassTo(9));
        rare.sow(0, 0, 9);
        rare.sow(0, 0, 9);
        check.due("odds are cut to nothing", rare.odds(8, 0, 8) < 200000 ? 1 : 0, 1);
        check.due("she can lie there", rare.lay(-1, -1), 9);
    }

    private static String noGrassTo(int width) {
        StringBuilder text = new StringBuilder();
        for (int i = 1; i < width; i++) text.append("grass").append(i).append(" 0 0;");
        return text.toString();
    }

    /** Promise 21: by a sum that is told. */
    private static void layingBySum() {
        // tithes  1  2  4 by columns: parish 0 by a border in column X, row Y
        CowLies x = Check.of("meadow 3 2;tithe 0 0 1;tithe 1 0 2;tithe 2 0 4;tithe 0 1 8;tithe 1 1 16;tithe 2 1 32;cow 0 0 3;");
        check.due("all are reached", x.lay(NONE, NONE), 6);
        check.due("lay(9, -1)", x.lay(9, NONE), 1);
        check.due("lay(9, 0)", x.lay(9, 0), 10);
        check.due("lay(9, 1)", x.lay(9, 1), NONE);
        check.due("lay(0, 0)", x.lay(0, 0), 0);
        check.due("lay(10, -1)", x.lay(10, NONE), 0);
        x.law(2);
        // 1, 0 and 0, 1 are as near
        check.due("law 2: lay(1, -1)", x.lay(1, NONE), 2);
        check.due("law 2: lay(1, 0)", x.lay(1, 0), 10);
        check.due("law 2: lay(1, 1)", x.lay(1, 1), 1);
        x.see(1, 0, 3);
        check.due("law 2, seen: lay(1, -1)", x.lay(1, NONE), 1);
    }

    /** Promise 21: hours, and what cannot be. */
    private static void whatCannotBe() {
        CowLies x = Check.of("meadow 5 1;cow 0 0 4;");
        x.see(0, 0, 0);
        check.due("seen where she wakes", x.lay(NONE, NONE), 5);
        x.see(4, 0, 5);
        check.due("later hours do not matter", x.lay(NONE, NONE), 5);
        x.see(2, 0, 2);
        check.due("seen at hour 2", x.lay(NONE, NONE), 5);
        x.see(2, 0, 3);
        check.due("seen at hour 3", x.lay(NONE, NONE), 3);
        check.due("the first of them", x.lay(NONE, 0), 10);
        x.see(3, 0, 4);
        check.due("seen at noon", x.lay(NONE, NONE), 1);
        check.due("it is there", x.lay(NONE, 0), 30);
        x.see(2, 0, 4);
        check.due("two places at one hour", x.lay(NONE, NONE), 0);
        x.tear();
        x.see(1, 0, 0);
        check.due("she did not wake there", x.lay(NONE, NONE), 0);
        x.lead(1, 0);
        check.due("she does now", x.lay(NONE, NONE), 5);
        x.tear();
        x.lead(0, 0);
        x.see(4, 0, 3);
        check.due("too far", x.lay(NONE, NONE), 0);
    }

    /** Promises 22 and 24. */
    private static void book() {
        CowLies x = Check.of("meadow 3 2;tithe 0 0 1;tithe 1 0 2;tithe 2 0 4;tithe 0 1 8;tithe 1 1 16;tithe 2 1 32;");
        check.due("judge() of no entries", x.judge(), NONE);
        for (int i = 1; i <= 28; i++) check.due("write, the " + i + "th", x.write(1, 0, 9), i);
        check.due("judge() of 28 right ones", x.judge(), NONE);
        check.due("write, the 29th", x.write(0, 0, 0), 29);
        check.due("write, the 30th", x.write(2, 1, 9999), 30);
        check.due("judge()", x.judge(), 29);
        x.law(1);
        // by 1, 0: parish 0 has 0, 0
        check.due("judge() by law 1", x.judge(), 0);
        x.law(0);
        check.due("judge() by law 0 again", x.judge(), 29);
        check.due("told(12)", x.told(12), 30);
    }

    /** Promise 23. */
    private static void tearing() {
        CowLies x = Check.of("meadow 2 2;");
        check.due("tear() of nothing", x.tear(), 0);
        x.see(0, 0, 1);
        x.see(1, 0, 1);
        x.write(1, 1, 5000);
        check.due("nowhere", x.lay(NONE, NONE), 0);
        check.due("tear()", x.tear(), 3);
        check.due("told(11)", x.told(11), 0);
        check.due("told(12)", x.told(12), 0);
        check.due("judge()", x.judge(), NONE);
        check.due("anywhere", x.lay(NONE, NONE), 4);
        for (int i = 0; i < 10; i++) x.see(0, 0, 0);
        for (int i = 0; i < 30; i++) x.write(0, 0, 0);
        check.due("tear() of all", x.tear(), 40);
        check.due("see() behind it", x.see(0, 0, 0), 1);
        check.due("write() behind it", x.write(0, 0, 0), 1);
    }
}
