import java.util.Random;

/** Promises 1 to 27: runs of up to 512 calls, ordinary and wrong ones, on the class and on the model: all answers alike. */
public final class ModelTest {
    private static final Check check = new Check();
    private static Random random;
    private static CowLies x;
    private static Model m;
    private static int width, height;
    /** Calls of the object so far: what those behind the 512th answer is free. */
    private static int calls;

    public static void main(String[] args) {
        int runs = args.length > 0 ? Integer.parseInt(args[0]) : 300;
        for (int run = 0; run < runs; run++) {
            random = new Random(run);
            begin();
            int next = 0;
            while (calls < 499) {
                String at = "run " + run + ", call " + calls + ": ";
                if (calls >= next || random.nextInt(200) == 0) {
                    tell(at, calls == 0);
                    next = calls + 150 + random.nextInt(300);
                } else {
                    anyCall(at, random.nextInt(28));
                }
            }
            for (int what = 0; what <= 12; what++) both("run " + run + ", told " + what, x.told(what), m.told(what));
        }
        for (int i = 0; i < 20 * runs; i++) {
            random = new Random(1000000 + i);
            if (i % 3 == 0 || calls > 300) begin();
            tell("text " + i + ": ", true);
        }
        check.end();
    }

    private static void begin() {
        x = new CowLies();
        m = new Model();
        width = 1;
        height = 1;
        calls = 0;
    }

    private static void both(String call, long got, long want) {
        calls++;
        if (calls <= 512) check.due(call, got, want);
    }

    private static int upTo(int most) {
        return random.nextInt(most + 1);
    }

    /** Mostly within 0 .. most, seldom about its edges or far off. */
    private static int about(int least, int most) {
        switch (random.nextInt(30)) {
            case 0: return least - 1;
            case 1: return most + 1;
            case 2: return random.nextInt();
            case 3: return least;
            case 4: return most;
            default: return least + random.nextInt(most - least + 1);
        }
    }

    // ---- texts

    private static void tell(String at, boolean lookAtCells) {
        String text = randomText();
        if (random.nextInt(4) == 0) text = spoilt(text);
        if (text.length() > 500) text = text.substring(0, 500);
        for (int from = 0; from < text.length(); ) {
            int n = Math.min(1 + random.nextInt(8), text.length() - from);
            long bytes = random.nextLong();
            for (int i = 0; i < n; i++) bytes = bytes << 8 | text.charAt(from + i);
            both(at + "feed", x.feed(n, bytes), m.feed(n, bytes));
            from += n;
        }
        both(at + "meadow() of " + text, x.meadow(), m.meadow());
        both(at + "fault() of " + text, x.fault(), m.fault());
        width = Math.max(1, m.told(0));
        height = Math.max(1, m.told(1));
        for (int c = 0; lookAtCells && c < width * height; c++) {
            for (int what = 0; what <= 4; what++) both(at + "cell " + what, x.cell(c % width, c / width, what), m.cell(c % width, c / width, what));
        }
        both(at + "told 4", x.told(4), m.told(4));
        both(at + "told 5", x.told(5), m.told(5));
    }

    private static String randomText() {
        if (random.nextInt(40) == 0) return " ".repeat(random.nextInt(5));
        int w = 1 + random.nextInt(9);
        int h = 1 + random.nextInt(Math.min(9, 40 / w));
        StringBuilder text = new StringBuilder("meadow " + w + " " + h + ";");
        int entries = random.nextInt(30);
        boolean cow = false, likes = false;
        java.util.Set<String> told = new java.util.HashSet<>();
        for (int i = 0; i < entries && text.length() < 470; i++) {
            int cx = random.nextInt(w), cy = random.nextInt(h);
            String entry;
            switch (random.nextInt(8)) {
                case 0: case 1: case 2: entry = "grass " + cx + " " + cy; break;
                case 3: case 4: entry = "tithe " + cx + " " + cy; break;
                case 5: case 6: entry = "thing " + new String[] {"shade", "water", "flies"}[random.nextInt(3)] + " " + cx + " " + cy; break;
                default: entry = random.nextBoolean() ? "cow" : "likes";
            }
            if (!told.add(entry) && random.nextInt(60) > 0) continue;
            if (entry.startsWith("grass")) entry += " " + upTo(9);
            if (entry.startsWith("tithe")) entry += " " + upTo(99);
            if (entry.equals("cow")) entry += " " + cx + " " + cy + " " + (1 + random.nextInt(8));
            if (entry.equals("likes")) entry += " " + upTo(9) + " " + upTo(9) + " " + upTo(9) + " " + upTo(9);
            text.append(entry).append(random.nextInt(5) == 0 ? " ; " : ";");
        }
        return text.toString();
    }

    /** A few signs of a text put in, left out, changed, or a piece of it told again. */
    private static String spoilt(String text) {
        StringBuilder s = new StringBuilder(text);
        String signs = " ;;0123456789abcowmthgrse\t-A\u00ff\0";
        for (int i = random.nextInt(3); i >= 0 && s.length() > 0; i--) {
            int at = random.nextInt(s.length());
            char sign = signs.charAt(random.nextInt(signs.length()));
            switch (random.nextInt(6)) {
                case 0: s.insert(at, sign); break;
                case 1: s.deleteCharAt(at); break;
                case 2: s.setCharAt(at, sign); break;
                case 3: s.setLength(at); break;
                case 4:
                    int end = text.indexOf(';', Math.min(at, text.length() - 1));
                    int begin = text.lastIndexOf(';', Math.max(0, end - 1));
                    if (end >= 0) s.append(text, begin + 1, end + 1);
                    break;
                default: s.insert(at, random.nextInt(2000));
            }
        }
        return s.toString();
    }

    // ---- calls

    private static void anyCall(String at, int which) {
        int cx = about(0, width - 1), cy = about(0, height - 1);
        int p = about(0, 1);
        if (which < 14) firstCalls(at, which, cx, cy, p);
        else laterCalls(at, which, cx, cy, p);
    }

    private static void firstCalls(String at, int which, int cx, int cy, int p) {
        int v;
        switch (which) {
            case 0: v = about(0, 12); both(at + "told " + v, x.told(v), m.told(v)); break;
            case 1: v = about(0, 4); both(at + "cell " + v, x.cell(cx, cy, v), m.cell(cx, cy, v)); break;
            case 2: both(at + "tithes", x.tithes(p, cx, cy), m.tithes(p, cx, cy)); break;
            case 3: v = about(1, 99); both(at + "day " + v, x.day(v), m.day(v)); break;
            case 4: both(at + "day 1", x.day(1), m.day(1)); break;
            case 5: v = about(0, 2); both(at + "law " + v, x.law(v), m.law(v)); break;
            case 6: v = about(1, 9); both(at + "sow " + v, x.sow(cx, cy, v), m.sow(cx, cy, v)); break;
            case 7: both(at + "lead", x.lead(cx, cy), m.lead(cx, cy)); break;
            case 8: both(at + "lick", x.lick(cx, cy), m.lick(cx, cy)); break;
            case 9: case 10: v = about(0, 12); both(at + "odds " + v, x.odds(cx, cy, v), m.odds(cx, cy, v)); break;
            case 11: case 12: both(at + "mean", x.mean(p), m.mean(p)); break;
            default: both(at + "fault", x.fault(), m.fault());
        }
    }

    private static void laterCalls(String at, int which, int cx, int cy, int p) {
        int v = about(1, 9), what = about(0, 1), many = about(-1, 9999);
        boolean dear = random.nextInt(6) == 0;
        switch (which) {
            case 14: if (dear) both(at + "clover", x.clover(p, v, what), m.clover(p, v, what)); break;
            case 15: p = about(-1, 1); if (dear && random.nextInt(6) == 0) both(at + "rests", x.rests(p, v), m.rests(p, v)); break;
            case 16: both(at + "worth", x.worth(p, cx, cy), m.worth(p, cx, cy)); break;
            case 17: if (dear) both(at + "fairest", x.fairest(what), m.fairest(what)); break;
            case 18: what = about(0, 2); both(at + "watch", x.watch(what), m.watch(what)); break;
            case 19: v = about(0, 12); both(at + "see", x.see(cx, cy, v), m.see(cx, cy, v)); break;
            case 20: case 21:
                if (random.nextInt(4) > 0) many = random.nextBoolean() ? -1 : m.tithes(0, cx, cy);
                v = about(-1, 8);
                both(at + "lay", x.lay(many, v), m.lay(many, v));
                break;
            case 22: case 23:
                if (random.nextInt(4) > 0) many = m.tithes(0, cx, cy);
                both(at + "write", x.write(cx, cy, many), m.write(cx, cy, many));
                break;
            case 24: if (dear) both(at + "tear", x.tear(), m.tear()); break;
            case 25: both(at + "judge", x.judge(), m.judge()); break;
            case 26: v = about(0, Integer.MAX_VALUE - 1); both(at + "seed", x.seed(v), m.seed(v)); break;
            default:
                if (random.nextBoolean()) both(at + "keep", x.keep(p), m.keep(p));
                else both(at + "goBack", x.goBack(p), m.goBack(p));
        }
    }
}
