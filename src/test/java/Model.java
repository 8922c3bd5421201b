import java.util.ArrayList;
import java.util.Arrays;
import java.util.Comparator;
import java.util.HashMap;
import java.util.LinkedHashMap;
import java.util.LinkedHashSet;
import java.util.List;
import java.util.Map;
import java.util.Set;
import java.math.BigInteger;

/**
 * The document once more, in another build: cells by X and Y in maps, a state that is
 * copied for each trial, a text that is read by exceptions. It is slow and plain.
 */
final class Model {
    static final int NONE = -1, UNKNOWN = -1000000001, OUTSIDE = -1000000002, NOT = -1000000003, FULL = -1000000004;
    private static final BigInteger BILLION = BigInteger.valueOf(1000000000);

    record Place(int x, int y) {
        int told() { return 10 * x + y; }
    }

    /** What an image keeps. */
    private static final class State {
        Map<Place, Integer> grass = new LinkedHashMap<>();
        Map<Place, Integer> first = new LinkedHashMap<>();
        Place wakes, noon, lick;
        int[] purse = new int[2];
        int days, law, seed;

        State copy() {
            State s = new State();
            s.grass.putAll(grass);
            s.first.putAll(first);
            s.wakes = wakes;
            s.noon = noon;
            s.lick = lick;
            s.purse = purse.clone();
            s.days = days;
            s.law = law;
            s.seed = seed;
            return s;
        }

        void sow(Place p, int k) {
            grass.put(p, Math.min(18, grass.get(p) + k));
            first.put(p, Math.min(18, first.get(p) + k));
        }
    }

    private static final class Fault extends RuntimeException {
        private static final long serialVersionUID = 1;
        final int number, place;
        Fault(int number, int place) {
            super(null, null, false, false);
            this.number = number;
            this.place = place;
        }
    }

    /** What a text tells. */
    private static final class Told {
        int w, h, n = 4;
        Place cow;
        int[] likes = {2, 3, 3, 4};
        Map<Place, Integer> grass = new HashMap<>();
        Map<Place, Integer> tithe = new HashMap<>();
        Map<Place, Set<String>> things = new HashMap<>();
    }

    private String text = "";
    private int faultPlace = NONE;
    private Told told = new Told();
    private List<Place> places = new ArrayList<>();
    private State state = new State();
    private final State[] images = new State[2];
    private final List<int[]> seen = new ArrayList<>();
    private final List<int[]> book = new ArrayList<>();

    // ---- the text

    int feed(int n, long bytes) {
        if (n < 1 || n > 8) return OUTSIDE;
        if (text.length() + n > 500) return FULL;
        StringBuilder more = new StringBuilder();
        for (int i = 0; i < n; i++) {
            more.insert(0, (char) (bytes & 255));
            bytes >>= 8;
        }
        text += more;
        return text.length();
    }

    int meadow() {
        String all = text;
        text = "";
        Told next;
        try {
            next = new Parser(all).parse();
        } catch (Fault f) {
            faultPlace = f.place;
            return -10 - f.number;
        }
        faultPlace = NONE;
        told = next;
        places = new ArrayList<>();
        for (int y = 0; y < told.h; y++) for (int x = 0; x < told.w; x++) places.add(new Place(x, y));
        State s = new State();
        s.law = state.law;
        s.seed = state.seed;
        for (Place p : places) {
            s.grass.put(p, told.grass.getOrDefault(p, 1));
            s.first.put(p, told.grass.getOrDefault(p, 1));
        }
        s.wakes = places.isEmpty() ? null : told.cow == null ? new Place(0, 0) : told.cow;
        state = s;
        Arrays.fill(images, null);
        seen.clear();
        book.clear();
        return places.size();
    }

    private static final class Parser {
        final String s;
        int at = 0;
        final Told t = new Told();
        final Map<String, Integer> counts = new HashMap<>();

        Parser(String s) { this.s = s; }

        void blanks() { while (at < s.length() && s.charAt(at) == ' ') at++; }

        String run(String set) {
            int from = at;
            while (at < s.length() && set.indexOf(s.charAt(at)) >= 0) at++;
            return s.substring(from, at);
        }

        String word() {
            blanks();
            int from = at;
            String word = run("abcdefghijklmnopqrstuvwxyz");
            if (word.isEmpty()) throw new Fault(1, from);
            return word;
        }

        /** The place of a number and its value. */
        int[] number(int least, int most) {
            blanks();
            int from = at;
            String figures = run("0123456789");
            if (figures.isEmpty()) throw new Fault(1, from);
            if (figures.length() > 3) throw new Fault(2, from);
            int value = Integer.parseInt(figures);
            if (value < least || value > most) throw new Fault(2, from);
            return new int[] {from, value};
        }

        void stop() {
            blanks();
            if (at >= s.length() || s.charAt(at) != ';') throw new Fault(1, at);
            at++;
        }

        Told parse() {
            blanks();
            if (at == s.length()) return t;
            int first = at;
            if (!word().equals("meadow")) throw new Fault(1, first);
            t.w = number(1, 9)[1];
            int[] h = number(1, 9);
            if (t.w * h[1] > 40) throw new Fault(2, h[0]);
            t.h = h[1];
            stop();
            for (blanks(); at < s.length(); blanks()) entry();
            return t;
        }

        Place place(Map<Place, ?> before) {
            int x = number(0, t.w - 1)[1];
            int[] y = number(0, t.h - 1);
            Place p = new Place(x, y[1]);
            if (before.containsKey(p)) throw new Fault(4, y[0]);
            return p;
        }

        void entry() {
            int from = at;
            String word = word();
            int most = switch (word) {
                case "grass", "tithe" -> 20;
                case "thing" -> 15;
                case "cow", "likes" -> 1;
                case "meadow" -> 0;
                default -> throw new Fault(1, from);
            };
            if (counts.merge(word, 1, Integer::sum) > most) throw new Fault(3, from);
            switch (word) {
                case "grass" -> { Place p = place(t.grass); t.grass.put(p, number(0, 9)[1]); }
                case "tithe" -> { Place p = place(t.tithe); t.tithe.put(p, number(0, 99)[1]); }
                case "cow" -> { t.cow = place(Map.of()); t.n = number(1, 8)[1]; }
                case "likes" -> { for (int i = 0; i < 4; i++) t.likes[i] = number(0, 9)[1]; }
                default -> thing();
            }
            stop();
        }

        void thing() {
            blanks();
            int from = at;
            String kind = word();
            if (!List.of("shade", "water", "flies").contains(kind)) throw new Fault(1, from);
            Map<Place, Boolean> before = new HashMap<>();
            t.things.forEach((p, kinds) -> { if (kinds.contains(kind)) before.put(p, true); });
            t.things.computeIfAbsent(place(before), p -> new LinkedHashSet<>()).add(kind);
        }
    }

    int fault() { return faultPlace; }

    private static int toldOf(Place p) { return p == null ? NONE : p.told(); }

    int told(int what) {
        int[] all = {told.w, told.h, text.length(), state.law, told.n, toldOf(state.wakes), toldOf(state.noon),
            toldOf(state.lick), state.days, state.purse[0], state.purse[1], seen.size(), book.size()};
        return what < 0 || what >= all.length ? OUTSIDE : all[what];
    }

    private boolean isCell(int x, int y) { return places.contains(new Place(x, y)); }

    private static boolean isParish(int p) { return p == 0 || p == 1; }

    private Set<String> thingsOf(Place p) { return told.things.getOrDefault(p, Set.of()); }

    private int liking(State s, Place p) {
        int g = 1 + told.likes[0] * s.grass.get(p);
        if (thingsOf(p).contains("shade")) g += told.likes[1];
        if (thingsOf(p).contains("water")) g += told.likes[2];
        if (thingsOf(p).contains("flies")) g -= told.likes[3];
        if (g < 1) g = 1;
        if (p.equals(s.lick)) g += 20;
        return g;
    }

    int cell(int x, int y, int what) {
        if (!isCell(x, y)) return UNKNOWN;
        Place p = new Place(x, y);
        switch (what) {
            case 0: return state.grass.get(p);
            case 1: return state.first.get(p);
            case 2:
                int set = 0;
                List<String> kinds = List.of("shade", "water", "flies");
                for (String kind : thingsOf(p)) set += 1 << kinds.indexOf(kind);
                return set;
            case 3: return tithe(p);
            case 4: return liking(state, p);
            default: return OUTSIDE;
        }
    }

    private int tithe(Place p) { return told.tithe.getOrDefault(p, 1); }

    private int tithesBy(State s, int parish, Place border) {
        Comparator<Place> order = switch (s.law) {
            case 0 -> Comparator.comparingInt(Place::x).thenComparingInt(Place::y);
            case 1 -> Comparator.comparingInt(Place::y).thenComparingInt(Place::x);
            default -> Comparator.comparingInt(p -> p.x() + p.y());
        };
        int[] both = new int[2];
        for (Place p : places) both[order.compare(p, border) < 0 ? 0 : 1] += tithe(p);
        return both[parish];
    }

    int tithes(int parish, int x, int y) {
        if (!isParish(parish) || !isCell(x, y)) return UNKNOWN;
        return tithesBy(state, parish, new Place(x, y));
    }

    // ---- days

    private List<Place> waysFrom(Place p) {
        List<Place> ways = new ArrayList<>(List.of(p, new Place(p.x, p.y - 1), new Place(p.x + 1, p.y),
            new Place(p.x, p.y + 1), new Place(p.x - 1, p.y)));
        ways.removeIf(q -> !isCell(q.x, q.y));
        return ways;
    }

    private int draw(State s, int n) {
        BigInteger next = BigInteger.valueOf(s.seed).multiply(BigInteger.valueOf(1103515245)).add(BigInteger.valueOf(12345));
        s.seed = next.mod(BigInteger.TWO.pow(31)).intValue();
        return s.seed / 65536 % n;
    }

    int day(int n) {
        if (n < 1 || n > 99) return OUTSIDE;
        if (places.isEmpty()) return NOT;
        for (int i = 0; i < n; i++) oneDay(state);
        return state.noon.told();
    }

    private void oneDay(State s) {
        Place at = s.wakes;
        for (int hour = 0; hour < told.n; hour++) {
            List<Place> lots = new ArrayList<>();
            for (Place p : waysFrom(at)) for (int i = liking(s, p); i > 0; i--) lots.add(p);
            at = lots.get(draw(s, lots.size()));
            s.grass.merge(at, -1, (a, b) -> Math.max(0, a + b));
        }
        s.noon = at;
        s.wakes = at;
        for (int parish = 0; parish < 2; parish++) s.purse[parish] += tithesBy(s, parish, at);
        s.days++;
        for (Place p : places) if (s.grass.get(p) < s.first.get(p)) s.grass.merge(p, 1, Integer::sum);
    }

    int law(int v) {
        if (v < 0 || v > 2) return OUTSIDE;
        int was = state.law;
        state.law = v;
        return was;
    }

    int sow(int x, int y, int k) {
        if (!isCell(x, y)) return UNKNOWN;
        if (k < 1 || k > 9) return OUTSIDE;
        state.sow(new Place(x, y), k);
        return state.grass.get(new Place(x, y));
    }

    int lead(int x, int y) {
        if (!isCell(x, y)) return UNKNOWN;
        int was = toldOf(state.wakes);
        state.wakes = new Place(x, y);
        return was;
    }

    int lick(int x, int y) {
        if (!isCell(x, y)) return UNKNOWN;
        int was = toldOf(state.lick);
        state.lick = new Place(x, y);
        return was;
    }

    // ---- odds

    private Map<Place, BigInteger> oddsAt(State s, int hours) {
        Map<Place, BigInteger> odds = new HashMap<>();
        odds.put(s.wakes, BILLION);
        for (int h = 0; h < hours; h++) {
            Map<Place, BigInteger> next = new HashMap<>();
            for (Map.Entry<Place, BigInteger> e : odds.entrySet()) {
                List<Place> ways = waysFrom(e.getKey());
                int all = 0;
                for (Place p : ways) all += liking(s, p);
                BigInteger left = e.getValue();
                for (Place p : ways.subList(0, ways.size() - 1)) {
                    BigInteger part = e.getValue().multiply(BigInteger.valueOf(liking(s, p))).divide(BigInteger.valueOf(all));
                    next.merge(p, part, BigInteger::add);
                    left = left.subtract(part);
                }
                next.merge(ways.get(ways.size() - 1), left, BigInteger::add);
            }
            odds = next;
        }
        return odds;
    }

    int odds(int x, int y, int h) {
        if (!isCell(x, y)) return UNKNOWN;
        if (h < 0 || h > 12) return OUTSIDE;
        return oddsAt(state, h).getOrDefault(new Place(x, y), BigInteger.ZERO).intValue();
    }

    private int meanOf(State s, int parish) {
        BigInteger sum = BigInteger.ZERO;
        for (Map.Entry<Place, BigInteger> e : oddsAt(s, told.n).entrySet()) {
            sum = sum.add(e.getValue().multiply(BigInteger.valueOf(tithesBy(s, parish, e.getKey()))));
        }
        return sum.divide(BILLION).intValue();
    }

    int mean(int parish) {
        if (!isParish(parish)) return UNKNOWN;
        if (places.isEmpty()) return NOT;
        return meanOf(state, parish);
    }

    private Place bestIn(State s, int parish, int k) {
        Place best = null;
        int most = 0;
        for (Place p : places) {
            State tried = s.copy();
            tried.sow(p, k);
            int mean = meanOf(tried, parish);
            if (best == null || mean > most) {
                best = p;
                most = mean;
            }
        }
        return best;
    }

    int clover(int parish, int k, int what) {
        if (!isParish(parish)) return UNKNOWN;
        if (k < 1 || k > 9 || what < 0 || what > 1) return OUTSIDE;
        if (places.isEmpty()) return NOT;
        Place best = bestIn(state, parish, k);
        State tried = state.copy();
        tried.sow(best, k);
        return what == 0 ? best.told() : meanOf(tried, parish) - meanOf(state, parish);
    }

    private Place bestAgainst(Place other, int parish, int k) {
        State tried = state.copy();
        tried.sow(other, k);
        return bestIn(tried, parish, k);
    }

    int rests(int parish, int k) {
        if (parish != NONE && !isParish(parish)) return UNKNOWN;
        if (k < 1 || k > 9) return OUTSIDE;
        if (places.isEmpty()) return NOT;
        Place[] sown = {bestIn(state, 0, k), bestIn(state, 1, k)};
        int changed = 0;
        for (int tried = 1; tried <= 20; tried++) {
            Place[] before = sown.clone();
            sown[0] = bestAgainst(sown[1], 0, k);
            sown[1] = bestAgainst(sown[0], 1, k);
            if (Arrays.equals(before, sown)) return parish == NONE ? changed : sown[parish].told();
            changed++;
        }
        return NONE;
    }

    int worth(int parish, int x, int y) {
        if (!isParish(parish) || !isCell(x, y)) return UNKNOWN;
        State tried = state.copy();
        tried.lick = new Place(x, y);
        return meanOf(tried, parish) - meanOf(state, parish);
    }

    int fairest(int what) {
        if (what < 0 || what > 1) return OUTSIDE;
        if (places.isEmpty()) return NOT;
        int least = Integer.MAX_VALUE;
        Place best = null;
        for (Place p : places) {
            State tried = state.copy();
            tried.lick = p;
            int gap = Math.abs(meanOf(tried, 0) - meanOf(tried, 1));
            if (gap < least) {
                least = gap;
                best = p;
            }
        }
        return what == 0 ? best.told() : least;
    }

    int watch(int what) {
        if (what < 0 || what > 2) return OUTSIDE;
        if (places.isEmpty()) return NOT;
        int[] best = {0, 0, -1};
        for (int h = told.n; h >= 1; h--) {
            Map<Place, BigInteger> odds = oddsAt(state, h);
            for (Place p : places) {
                int here = odds.getOrDefault(p, BigInteger.ZERO).intValue();
                if (here > best[2]) best = new int[] {h, p.told(), here};
            }
        }
        return best[what];
    }

    // ---- what was seen

    int see(int x, int y, int h) {
        if (!isCell(x, y)) return UNKNOWN;
        if (h < 0 || h > 12) return OUTSIDE;
        if (seen.size() >= 10) return FULL;
        seen.add(new int[] {x, y, h});
        return seen.size();
    }

    private boolean agrees(Place p, int h) {
        for (int[] s : seen) if (s[2] == h && (s[0] != p.x || s[1] != p.y)) return false;
        return true;
    }

    int lay(int sum, int i) {
        if (sum < -1 || sum > 9999) return OUTSIDE;
        Set<Place> on = new LinkedHashSet<>();
        if (state.wakes != null && agrees(state.wakes, 0)) on.add(state.wakes);
        for (int h = 1; h <= told.n; h++) {
            Set<Place> next = new LinkedHashSet<>();
            for (Place p : on) for (Place q : waysFrom(p)) if (agrees(q, h)) next.add(q);
            on = next;
        }
        List<Place> fit = new ArrayList<>();
        for (Place p : places) if (on.contains(p) && (sum == NONE || tithesBy(state, 0, p) == sum)) fit.add(p);
        if (i == NONE) return fit.size();
        return i < 0 || i >= fit.size() ? NONE : fit.get(i).told();
    }

    int write(int x, int y, int sum) {
        if (!isCell(x, y)) return UNKNOWN;
        if (sum < 0 || sum > 9999) return OUTSIDE;
        if (book.size() >= 30) return FULL;
        book.add(new int[] {x, y, sum});
        return book.size();
    }

    int tear() {
        int both = book.size() + seen.size();
        book.clear();
        seen.clear();
        return both;
    }

    int judge() {
        for (int i = 0; i < book.size(); i++) {
            int[] e = book.get(i);
            if (tithesBy(state, 0, new Place(e[0], e[1])) != e[2]) return i;
        }
        return NONE;
    }

    // ---- draws, images

    int seed(int v) {
        if (v < 0) return OUTSIDE;
        int was = state.seed;
        state.seed = v;
        return was;
    }

    int keep(int i) {
        if (i < 0 || i > 1) return UNKNOWN;
        images[i] = state.copy();
        return 1;
    }

    int goBack(int i) {
        if (i < 0 || i > 1) return UNKNOWN;
        if (images[i] == null) return NOT;
        state = images[i].copy();
        return 1;
    }
}
