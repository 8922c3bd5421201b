import java.util.ArrayList;
import java.util.List;
import java.util.function.Supplier;

/** What every test of the project needs: answers that are due, texts, looks at all of an object. */
final class Check {
    static final int NONE = -1, UNKNOWN = -1000000001, OUTSIDE = -1000000002, NOT = -1000000003, FULL = -1000000004;

    /** A call, or several, the last one's answer. */
    interface Call {
        long on(CowLies x);
    }

    private int wrong = 0;
    private int asked = 0;
    private String sentence = "";

    /** The sentence of the document to which the next answers belong. */
    void sentence(String words) {
        sentence = words + ": ";
    }

    void due(String call, long got, long want) {
        asked++;
        if (got == want) return;
        wrong++;
        System.out.println(sentence + call + " answered " + got + ", due is " + want);
    }

    void dueText(String what, String got, String want) {
        asked++;
        if (got.equals(want)) return;
        wrong++;
        System.out.println(sentence + what + ": " + got + ", due is " + want);
    }

    void holds(String what, boolean so) {
        due(what, so ? 1 : 0, 1);
    }

    /** Of two like objects one is called and refuses; behind it both are alike in all. */
    void refused(String call, Supplier<CowLies> made, Call refusedCall, int refusal) {
        CowLies called = made.get();
        due(call, refusedCall.on(called), refusal);
        dueText("behind " + call, allOf(called), allOf(made.get()));
    }

    /** Ends the test: exit code 1 if an answer was not the one that is due. */
    void end() {
        System.out.println(wrong == 0 ? asked + " answers are as due" : wrong + " of " + asked + " answers are not as due");
        if (wrong != 0) System.exit(1);
    }

    /** Feeds a text, eight bytes a call; its signs are bytes. */
    static void feed(CowLies x, String text) {
        for (int from = 0; from < text.length(); from += 8) {
            int n = Math.min(8, text.length() - from);
            x.feed(n, bytes(text.substring(from, from + n)));
        }
    }

    /** The signs as bytes of one long, the first one the highest. */
    static long bytes(String text) {
        long bytes = 0;
        for (int i = 0; i < text.length(); i++) bytes = bytes << 8 | text.charAt(i) & 255;
        return bytes;
    }

    static int meadow(CowLies x, String text) {
        feed(x, text);
        return x.meadow();
    }

    static CowLies of(String text) {
        CowLies x = new CowLies();
        int cells = meadow(x, text);
        if (cells < 0) throw new IllegalStateException("a fault in the test's own text: " + text + " " + cells + " at " + x.fault());
        return x;
    }

    /** All that can be asked of an object without changing it, in few calls: an object has but 512. */
    static String stateOf(CowLies x) {
        return x.fault() + " " + stateButFault(x);
    }

    /** The same, but for the place of the latest fault. */
    static String stateButFault(CowLies x) {
        List<Integer> all = new ArrayList<>();
        for (int what = 0; what <= 12; what++) all.add(x.told(what));
        int seed = x.seed(0);
        x.seed(seed);
        all.add(seed);
        int width = all.get(0), height = all.get(1), law = all.get(3);
        for (int c = 0; c < width * height; c++) {
            for (int what = 0; what <= 4; what++) all.add(x.cell(c % width, c / width, what));
        }
        int fitting = x.lay(NONE, NONE);
        for (int i = NONE; i <= fitting; i++) all.add(x.lay(NONE, i));
        for (int v = 0; v <= 2; v++) {
            x.law(v);
            all.add(x.judge());
            all.add(x.mean(0));
            all.add(x.mean(1));
        }
        x.law(law);
        return all.toString();
    }

    /** All of an object, what shows only when it goes on too: its draws, its images, its text. */
    static String allOf(CowLies x) {
        return x.fault() + " " + allButFault(x);
    }

    /** The same, but for the place of the latest fault. */
    static String allButFault(CowLies x) {
        StringBuilder all = new StringBuilder(stateButFault(x));
        all.append(x.day(2)).append(x.tear()).append(stateButFault(x));
        for (int i = 0; i <= 1; i++) all.append(x.goBack(i)).append(stateButFault(x)).append(x.day(1));
        all.append(x.feed(1, ';')).append(' ').append(x.meadow()).append(stateOf(x));
        return all.toString();
    }

    /** The seed behind so many draws. */
    static int seedBehind(int seed, int draws) {
        java.math.BigInteger s = java.math.BigInteger.valueOf(seed);
        for (int i = 0; i < draws; i++) {
            s = s.multiply(java.math.BigInteger.valueOf(1103515245)).add(java.math.BigInteger.valueOf(12345));
            s = s.mod(java.math.BigInteger.TWO.pow(31));
        }
        return s.intValue();
    }

    /** The least seed by which the next draw of n is the wanted one. */
    static int seedFor(int n, int wanted) {
        for (int seed = 0; seed < 10000000; seed++) {
            if (seedBehind(seed, 1) / 65536 % n == wanted) return seed;
        }
        throw new IllegalStateException("no seed draws " + wanted + " of " + n);
    }
}
