/** Promises 25 to 27: seed, keep, goBack; their edges stand in EdgesImagesTest. */
public final class ImagesTest {
    private static final Check check = new Check();
    private static final int NONE = Check.NONE, OUTSIDE = Check.OUTSIDE, NOT = Check.NOT;

    public static void main(String[] args) {
        seeds();
        images();
        whatImagesDoNotKeep();
        check.end();
    }

    /** Promise 25. */
    private static void seeds() {
        CowLies x = new CowLies();
        check.due("seed(2147483647)", x.seed(2147483647), 0);
        check.due("seed(-1)", x.seed(-1), OUTSIDE);
        check.due("seed(least)", x.seed(Integer.MIN_VALUE), OUTSIDE);
        check.due("seed(0)", x.seed(0), 2147483647);
        check.due("seed(7)", x.seed(7), 0);
        Check.feed(x, "meadow 2 2;cow 0 0 1;");
        x.meadow();
        check.due("the seed stays", x.seed(7), 7);
        x.day(1);
        // 7 * 1103515245 + 12345 left over by 2147483648
        check.due("the seed behind one draw", x.seed(0), (7L * 1103515245 + 12345) % 2147483648L);
        x.odds(0, 0, 3);
        x.rests(-1, 3);
        check.due("no draws but by days", x.seed(0), 0);
    }

    private static CowLies used() {
        CowLies x = Check.of("meadow 3 2;cow 1 1 3;grass 0 0 9;tithe 2 1 9;");
        x.seed(5);
        x.law(2);
        x.sow(1, 0, 6);
        x.lick(1, 1);
        x.day(4);
        return x;
    }

    /** Promises 26 and 27: all that an image keeps comes back, and goes on alike. */
    private static void images() {
        CowLies x = used();
        String then = Check.stateOf(x);
        check.due("keep(0)", x.keep(0), 1);
        int noon = x.day(30);
        String later = Check.stateOf(x);
        check.due("keep(1)", x.keep(1), 1);
        x.law(0);
        x.lick(0, 0);
        x.sow(2, 1, 9);
        x.lead(2, 1);
        x.seed(1);
        x.day(2);
        check.due("goBack(0)", x.goBack(0), 1);
        check.dueText("gone back to 0", Check.stateOf(x), then);
        check.due("the same days again", x.day(30), noon);
        check.dueText("30 days on", Check.stateOf(x), later);
        check.due("goBack(0) again", x.goBack(0), 1);
        check.dueText("gone back to 0 again", Check.stateOf(x), then);
        check.due("goBack(1)", x.goBack(1), 1);
        check.dueText("gone back to 1", Check.stateOf(x), later);
        check.due("keep(0) anew", x.keep(0), 1);
        x.day(1);
        x.goBack(0);
        check.dueText("gone back to the new 0", Check.stateOf(x), later);
    }

    /** Promises 26 and 27, Terms 3 (IMAGES): what is SEEN, THE BOOK and THE TEXT are not kept. */
    private static void whatImagesDoNotKeep() {
        CowLies x = used();
        x.see(1, 1, 0);
        x.keep(0);
        x.see(0, 0, 12);
        x.write(0, 0, 0);
        Check.feed(x, "cow");
        x.goBack(0);
        check.due("what was seen stays", x.told(11), 2);
        check.due("the book stays", x.told(12), 1);
        check.due("the text stays", x.told(2), 3);
        Check.feed(x, " ");
        check.due("a fault", x.meadow(), -11);
        check.due("images are kept behind a fault", x.goBack(0), 1);
        Check.feed(x, "meadow 3 3;");
        check.due("a meadow", x.meadow(), 9);
        check.due("images are gone", x.goBack(0), NOT);
        CowLies empty = new CowLies();
        check.due("keep(0) without cells", empty.keep(0), 1);
        empty.seed(8);
        check.due("goBack(0) without cells", empty.goBack(0), 1);
        check.due("its seed", empty.seed(1), 0);
        check.due("told(6)", empty.told(6), NONE);
        check.due("meadow() of nothing", empty.meadow(), 0);
        check.due("images are gone by no cells, too", empty.goBack(0), NOT);
    }
}
