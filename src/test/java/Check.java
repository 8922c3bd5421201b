import java.util.ArrayList;
import java.util.List;

/** What every test of the project needs: answers that are due, texts, snapshots. */
final class Check {
    static final int NONE = -1, UNKNOWN = -1000000001, OUTSIDE = -1000000002, NOT = -1000000003, FULL = -1000000004;

    private int wrong = 0;
    private int asked = 0;

    void due(String call, long got, long want) {
        asked++;
        if (got == want) return;
        wrong++;
        System.out.println(call + " answered " + got + ", due is " + want);
    }

    void dueText(String what, String got, String want) {
        asked++;
        if (got.equals(want)) return;
        wrong++;
        System.out.println(what + ": " + got + ", due is " + want);
    }

    void holds(String what, boolean so) {
        due(what, so ? 1 : 0, 1);
    }

    /** Ends the test: exit code 1 if an answer was not the one that is due. */
    void end() {
        System.out.println(wrong == 0 ? asked + " answers are as due" : wrong + " of " + asked + " answers are not as due");
        if (wrong != 0) System.exit(1);
    }

    /** Feeds a text, eight bytes a call; its signs are bytes. */
    static void feed(CowLies x, String text) {
        for (int from = 0; from < text.length(); from += 8) {
            int n = Math.min(8, text.length() - from);
            long bytes = 0;
            for (int i = 0; i < n; i++) bytes = bytes << 8 | text.charAt(from + i) & 255;
            x.feed(n, bytes);
        }
    }

    static CowLies of(String text) {
        CowLies x = new CowLies();
        feed(x, text);
        int cells = x.meadow();
        if (cells < 0) throw new IllegalStateException("a fault in the test's own text: " + text + " " + cells + " at " + x.fault());
        return x;
    }

    /** All that can be asked of an object without changing it. */
    static String stateOf(CowLies x) {
        List<Integer> all = new ArrayList<>();
        for (int what = 0; what <= 12; what++) all.add(x.told(what));
        all.add(x.fault());
        int seed = x.seed(0);
        x.seed(seed);
        all.add(seed);
        for (int y = 0; y < x.told(1); y++) {
            for (int column = 0; column < x.told(0); column++) {
                for (int what = 0; what <= 4; what++) all.add(x.cell(column, y, what));
            }
        }
        all.add(x.lay(NONE, NONE));
        for (int i = 0; i < x.lay(NONE, NONE); i++) all.add(x.lay(NONE, i));
        all.add(x.judge());
        all.add(x.mean(0));
        all.add(x.mean(1));
        return all.toString();
    }

    /** A call that is refused: the answer, and that nothing changed by it. */
    void refused(CowLies x, String before, String call, long got, long want) {
        due(call, got, want);
        dueText("behind " + call, stateOf(x), before);
    }
}
