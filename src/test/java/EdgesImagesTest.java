import java.util.function.Supplier;

/** The edges that Terms 3 (THE SEED, IMAGES) and promises 25 to 27 name. */
public final class EdgesImagesTest {
    private static final Check check = new Check();
    private static final int NONE = Check.NONE, UNKNOWN = Check.UNKNOWN, OUTSIDE = Check.OUTSIDE, NOT = Check.NOT;

    public static void main(String[] args) {
        promise25Seed();
        terms3EachThatAnImageKeeps();
        terms3WhatNoImageKeeps();
        promise26And27BothImages();
        promise27NeverKept();
        promise27WithoutCells();
        promise3ImagesAreGone();
        check.end();
    }

    private static void promise25Seed() {
        check.sentence("Promise 25: THE SEED becomes v (0 .. 2147483647): what it was");
        CowLies x = new CowLies();
        int was = 0;
        for (int v : new int[] {0, 1, 2147483646, 2147483647, 2147483647, 0}) {
            check.due("seed(" + v + ")", x.seed(v), was);
            was = v;
        }
        x.seed(2147483647);
        check.due("seed(-1)", x.seed(-1), OUTSIDE);
        check.due("seed(-2147483648)", x.seed(-2147483648), OUTSIDE);
        check.due("as it was", x.seed(5), 2147483647);
        check.sentence("Promises 3 and 25: THE SEED stays by a meadow");
        Check.meadow(x, "meadow 1 1;cow 0 0 1;");
        check.due("behind a meadow", x.seed(2147483647), 5);
        x.day(1);
        check.due("a draw by the greatest", x.seed(0), 1043980748);
    }

    private static CowLies used() {
        CowLies x = Check.of("meadow 2 2;grass 0 0 9;tithe 1 1 40;cow 1 0 3;");
        x.seed(41);
        x.lick(0, 1);
        x.day(2);
        return x;
    }

    /** One thing is changed behind a keep, and comes back by goBack. */
    private static void comesBack(String what, Supplier<CowLies> made, Check.Call change) {
        for (int i = 0; i <= 1; i++) {
            CowLies x = made.get();
            int image = i;
            check.due("keep(" + i + ")", x.keep(i), 1);
            String then = Check.stateOf(x);
            change.on(x);
            check.holds(what + " is changed", !Check.stateOf(x).equals(then));
            check.due("goBack(" + i + ")", x.goBack(i), 1);
            CowLies never = made.get();
            never.keep(image);
            check.dueText("all, when it was " + what, Check.allOf(x), Check.allOf(never));
        }
    }

    private static void terms3EachThatAnImageKeeps() {
        check.sentence("Terms 3: IMAGES keep GRASS (at first, too)");
        comesBack("GRASS", EdgesImagesTest::used, x -> x.sow(1, 1, 4));
        check.sentence("Terms 3: IMAGES keep where she wakes");
        comesBack("where she wakes", EdgesImagesTest::used, x -> x.lead(x.told(5) / 10, 1 - x.told(5) % 10));
        check.sentence("Terms 3: IMAGES keep the LICK");
        comesBack("the LICK", EdgesImagesTest::used, x -> x.lick(1, 1));
        comesBack("no LICK", () -> Check.of("meadow 2 2;"), x -> x.lick(1, 1));
        check.sentence("Terms 3: IMAGES keep NOON, PURSES, DAYS, THE SEED");
        comesBack("NOON, PURSES, DAYS", EdgesImagesTest::used, x -> x.day(3));
        comesBack("no NOON yet", () -> Check.of("meadow 2 2;"), x -> x.day(1));
        check.sentence("Terms 3: IMAGES keep LAW");
        for (int law = 1; law <= 2; law++) {
            int v = law;
            comesBack("LAW", EdgesImagesTest::used, x -> x.law(v));
        }
        check.sentence("Terms 3: IMAGES keep THE SEED");
        comesBack("THE SEED", EdgesImagesTest::used, x -> x.seed(2147483647));
        comesBack("THE SEED without cells", CowLies::new, x -> x.seed(2147483647));
        comesBack("LAW without cells", CowLies::new, x -> x.law(2));
    }

    private static void terms3WhatNoImageKeeps() {
        check.sentence("Terms 3: IMAGES keep neither what was SEEN, nor THE BOOK, nor THE TEXT, nor its FAULT");
        CowLies x = used();
        x.see(0, 0, 12);
        x.write(0, 0, 0);
        Check.feed(x, "x");
        x.keep(0);
        x.see(1, 1, 12);
        x.write(1, 1, 5);
        x.write(1, 0, 5);
        Check.feed(x, "yz");
        x.goBack(0);
        check.due("SEEN", x.told(11), 2);
        check.due("THE BOOK", x.told(12), 3);
        check.due("WRONG", x.judge(), 1);
        check.due("THE TEXT", x.told(2), 3);
        x.meadow();
        check.due("the FAULT", x.fault(), 0);
        x.goBack(0);
        check.due("the FAULT is the latest meadow()'s", x.fault(), 0);
        x.tear();
        x.goBack(0);
        check.due("SEEN torn", x.told(11), 0);
        check.due("THE BOOK torn", x.told(12), 0);
    }

    private static void promise26And27BothImages() {
        check.sentence("Promises 26 and 27: IMAGES 0, 1 are apart, kept anew, gone back to again");
        CowLies x = used();
        x.keep(0);
        String first = Check.stateOf(x);
        x.day(1);
        x.keep(1);
        String second = Check.stateOf(x);
        x.day(1);
        for (int i = 0; i < 2; i++) {
            check.due("goBack(0)", x.goBack(0), 1);
            check.dueText("IMAGE 0", Check.stateOf(x), first);
            x.sow(0, 0, 9);
            check.due("goBack(1)", x.goBack(1), 1);
            check.dueText("IMAGE 1", Check.stateOf(x), second);
            x.day(2);
        }
        x.goBack(1);
        check.due("keep(0) anew", x.keep(0), 1);
        x.law(2);
        x.goBack(0);
        check.dueText("IMAGE 0 anew", Check.stateOf(x), second);
    }

    private static void promise27NeverKept() {
        check.sentence("Promise 27: NOT: it was not kept");
        for (int i = 0; i <= 1; i++) {
            CowLies x = used();
            check.due("neither kept", x.goBack(i), NOT);
            x.keep(i);
            check.due("the other one kept", x.goBack(1 - i), NOT);
            check.due("kept", x.goBack(i), 1);
        }
        CowLies x = used();
        check.due("keep(-1)", x.keep(-1), UNKNOWN);
        check.due("keep(2)", x.keep(2), UNKNOWN);
        check.due("goBack(-1)", x.goBack(-1), UNKNOWN);
        check.due("goBack(2)", x.goBack(2), UNKNOWN);
        check.due("keep(2) keeps neither", x.goBack(0), NOT);
        check.due("keep(-1) keeps neither", x.goBack(1), NOT);
    }

    private static void promise27WithoutCells() {
        check.sentence("Promises 26 and 27: an image without CELLS");
        CowLies x = new CowLies();
        check.due("goBack(0)", x.goBack(0), NOT);
        x.law(1);
        check.due("keep(0)", x.keep(0), 1);
        x.law(2);
        check.due("goBack(0)", x.goBack(0), 1);
        check.due("LAW", x.told(3), 1);
        check.due("where she wakes", x.told(5), NONE);
        check.due("day(1)", x.day(1), NOT);
    }

    private static void promise3ImagesAreGone() {
        check.sentence("Promise 3: IMAGES are gone by a meadow, not by a FAULT");
        for (String text : new String[] {"meadow 2 2;", "meadow 1 1;", "", "  "}) {
            CowLies x = used();
            x.keep(0);
            x.keep(1);
            Check.meadow(x, "meadow 2");
            check.due("goBack(0) behind a FAULT", x.goBack(0), 1);
            check.due("goBack(1) behind a FAULT", x.goBack(1), 1);
            Check.meadow(x, text);
            check.due("goBack(0) behind '" + text + "'", x.goBack(0), NOT);
            check.due("goBack(1) behind '" + text + "'", x.goBack(1), NOT);
            check.due("keep(1) behind '" + text + "'", x.keep(1), 1);
            check.due("goBack(1) kept anew", x.goBack(1), 1);
        }
    }
}
