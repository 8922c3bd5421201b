/**
 * Where the cow lies: two parishes share a meadow, and the border each day is
 * drawn through where the priest's cow lies at noon.
 *
 * <p>A cell is held as one number, Y times W and X, so that rising numbers are
 * the document's order (Y by Y, X rising). Every row is made in a constructor
 * and used again: no call makes an object.
 */
public final class CowLies {
    public static final int NONE = -1, UNKNOWN = -1000000001, OUTSIDE = -1000000002, NOT = -1000000003, FULL = -1000000004;

    private static final int MOST_CELLS = 40;
    private static final int MOST_SIDE = 9;
    private static final int MOST_WAYS = 5;
    private static final int MOST_BYTES = 500;
    private static final int MOST_SEEN = 10;
    private static final int MOST_ENTRIES = 30;
    private static final int MOST_MORNINGS = 99;
    private static final int MOST_HOURS_ON = 12;
    private static final int MOST_CLOVER = 9;
    private static final int MOST_GRASS = 18;
    private static final int MOST_ROUNDS = 20;
    private static final int MOST_SUM = 9999;
    private static final int LAST_LAW = 2;
    private static final int LICK_LIKING = 20;
    private static final int BILLION = 1000000000;

    private final Text text;
    private final Reader reader;
    private final Land land;
    private final Pasture now;
    private final Image image0;
    private final Image image1;
    private final Forecast forecast;
    private final Trials trials;
    private final Sightings sightings;
    private final Book book;

    public CowLies() {
        text = new Text();
        reader = new Reader(text);
        land = new Land();
        now = new Pasture(land);
        image0 = new Image(land);
        image1 = new Image(land);
        forecast = new Forecast(land, now);
        trials = new Trials(land, now, forecast);
        sightings = new Sightings(land, now);
        book = new Book(land);
    }

    // ---- the meadow

    public int feed(int n, long bytes) {
        if (n < 1 || n > 8) return OUTSIDE;
        if (text.length + n > MOST_BYTES) return FULL;
        for (int i = n - 1; i >= 0; i--) text.add((int) (bytes >>> (8 * i)) & 255);
        return text.length;
    }

    public int meadow() {
        int answer = reader.read();
        text.clear();
        if (answer < 0) return answer;
        land.takeFrom(reader.draft);
        now.settle();
        image0.kept = false;
        image1.kept = false;
        sightings.count = 0;
        book.count = 0;
        return answer;
    }

    public int fault() {
        return reader.faultPlace;
    }

    public int told(int what) {
        switch (what) {
            case 0: return land.width;
            case 1: return land.height;
            case 2: return text.length;
            case 3: return now.law;
            case 4: return land.hours;
            case 5: return land.placeOf(now.wakes);
            case 6: return land.placeOf(now.noon);
            case 7: return land.placeOf(now.lick);
            case 8: return now.days;
            case 9: return now.purse0;
            case 10: return now.purse1;
            case 11: return sightings.count;
            case 12: return book.count;
            default: return OUTSIDE;
        }
    }

    public int cell(int x, int y, int what) {
        int c = land.cellAt(x, y);
        if (!land.has(c)) return UNKNOWN;
        switch (what) {
            case 0: return now.grass[c];
            case 1: return now.atFirst[c];
            case 2: return land.things[c];
            case 3: return land.tithe[c];
            case 4: return now.likingNow(c);
            default: return OUTSIDE;
        }
    }

    public int tithes(int parish, int x, int y) {
        int c = land.cellAt(x, y);
        if (!isParish(parish) || !land.has(c)) return UNKNOWN;
        return land.tithesOf(parish, c, now.law);
    }

    // ---- days

    public int day(int n) {
        if (n < 1 || n > MOST_MORNINGS) return OUTSIDE;
        if (land.cells == 0) return NOT;
        for (int i = 0; i < n; i++) now.passDay();
        return land.placeOf(now.noon);
    }

    public int law(int v) {
        if (v < 0 || v > LAST_LAW) return OUTSIDE;
        int was = now.law;
        now.law = v;
        return was;
    }

    public int sow(int x, int y, int k) {
        int c = land.cellAt(x, y);
        if (!land.has(c)) return UNKNOWN;
        if (!isClover(k)) return OUTSIDE;
        now.grass[c] = sown(now.grass[c], k);
        now.atFirst[c] = sown(now.atFirst[c], k);
        return now.grass[c];
    }

    public int lead(int x, int y) {
        int c = land.cellAt(x, y);
        if (!land.has(c)) return UNKNOWN;
        int was = land.placeOf(now.wakes);
        now.wakes = c;
        return was;
    }

    public int lick(int x, int y) {
        int c = land.cellAt(x, y);
        if (!land.has(c)) return UNKNOWN;
        int was = land.placeOf(now.lick);
        now.lick = c;
        return was;
    }

    // ---- odds

    public int odds(int x, int y, int h) {
        int c = land.cellAt(x, y);
        if (!land.has(c)) return UNKNOWN;
        if (!isHourOn(h)) return OUTSIDE;
        forecast.lookAround(now.lick);
        forecast.run(h);
        return (int) forecast.parts[c];
    }

    public int mean(int parish) {
        if (!isParish(parish)) return UNKNOWN;
        if (land.cells == 0) return NOT;
        trials.reckonBorders();
        return trials.meanWithLick(parish, now.lick);
    }

    public int clover(int parish, int k, int what) {
        if (!isParish(parish)) return UNKNOWN;
        if (!isClover(k) || what < 0 || what > 1) return OUTSIDE;
        if (land.cells == 0) return NOT;
        trials.reckonBorders();
        int best = trials.bestClover(parish, k, NONE);
        if (what == 0) return land.placeOf(best);
        return trials.bestMean - trials.meanWithLick(parish, now.lick);
    }

    public int rests(int parish, int k) {
        if (parish != NONE && !isParish(parish)) return UNKNOWN;
        if (!isClover(k)) return OUTSIDE;
        if (land.cells == 0) return NOT;
        trials.reckonBorders();
        int rounds = trials.roundsTillRest(k);
        if (parish == NONE || rounds == NONE) return rounds;
        return land.placeOf(parish == 0 ? trials.restCell0 : trials.restCell1);
    }

    public int worth(int parish, int x, int y) {
        int c = land.cellAt(x, y);
        if (!isParish(parish) || !land.has(c)) return UNKNOWN;
        trials.reckonBorders();
        return trials.meanWithLick(parish, c) - trials.meanWithLick(parish, now.lick);
    }

    public int fairest(int what) {
        if (what < 0 || what > 1) return OUTSIDE;
        if (land.cells == 0) return NOT;
        trials.reckonBorders();
        int best = trials.fairestCell();
        return what == 0 ? land.placeOf(best) : trials.leastGap;
    }

    public int watch(int what) {
        if (what < 0 || what > 2) return OUTSIDE;
        if (land.cells == 0) return NOT;
        forecast.lookAround(now.lick);
        return forecast.bestWatched(what);
    }

    // ---- what was seen

    public int see(int x, int y, int h) {
        int c = land.cellAt(x, y);
        if (!land.has(c)) return UNKNOWN;
        if (!isHourOn(h)) return OUTSIDE;
        if (sightings.count >= MOST_SEEN) return FULL;
        sightings.add(c, h);
        return sightings.count;
    }

    public int lay(int sum, int i) {
        if (sum != NONE && !isSum(sum)) return OUTSIDE;
        sightings.followToNoon();
        if (i == NONE) return sightings.countFitting(sum);
        return land.placeOf(sightings.fittingCell(sum, i));
    }

    public int write(int x, int y, int sum) {
        int c = land.cellAt(x, y);
        if (!land.has(c)) return UNKNOWN;
        if (!isSum(sum)) return OUTSIDE;
        if (book.count >= MOST_ENTRIES) return FULL;
        book.add(c, sum);
        return book.count;
    }

    public int tear() {
        int both = book.count + sightings.count;
        book.count = 0;
        sightings.count = 0;
        return both;
    }

    public int judge() {
        return book.firstWrong(now.law);
    }

    // ---- draws, images

    public int seed(int v) {
        if (v < 0) return OUTSIDE;
        int was = now.seed;
        now.seed = v;
        return was;
    }

    public int keep(int i) {
        if (!isImage(i)) return UNKNOWN;
        Image image = i == 0 ? image0 : image1;
        image.pasture.takeFrom(now);
        image.kept = true;
        return 1;
    }

    public int goBack(int i) {
        if (!isImage(i)) return UNKNOWN;
        Image image = i == 0 ? image0 : image1;
        if (!image.kept) return NOT;
        now.takeFrom(image.pasture);
        return 1;
    }

    private static boolean isParish(int parish) {
        return parish == 0 || parish == 1;
    }

    private static boolean isImage(int i) {
        return i == 0 || i == 1;
    }

    private static boolean isClover(int k) {
        return k >= 1 && k <= MOST_CLOVER;
    }

    private static boolean isHourOn(int h) {
        return h >= 0 && h <= MOST_HOURS_ON;
    }

    private static boolean isSum(int sum) {
        return sum >= 0 && sum <= MOST_SUM;
    }

    private static int sown(int grass, int k) {
        return Math.min(MOST_GRASS, grass + k);
    }

    /** The text that is fed, byte by byte, and its tokens one after the other. */
    private static final class Text {
        private static final int END = 0, WORD = 1, NUMBER = 2, STOP = 3, OTHER = 4;

        private final int[] signs = new int[MOST_BYTES];
        private int length;
        private int kind, start, end;

        void add(int sign) {
            if (length < 0 || length >= MOST_BYTES) return;
            signs[length] = sign;
            length++;
        }

        void clear() {
            length = 0;
        }

        void rewind() {
            kind = END;
            start = 0;
            end = 0;
        }

        void nextToken() {
            start = end;
            while (start < length && signs[start] == ' ') start++;
            end = start;
            while (end < length && signs[end] >= 'a' && signs[end] <= 'z') end++;
            kind = WORD;
            if (end > start) return;
            while (end < length && signs[end] >= '0' && signs[end] <= '9') end++;
            kind = NUMBER;
            if (end > start) return;
            kind = END;
            if (start >= length) return;
            kind = signs[start] == ';' ? STOP : OTHER;
            end = start + 1;
        }

        boolean isWord(String word) {
            if (kind != WORD || end - start != word.length() || end > length) return false;
            for (int i = 0; i < word.length(); i++) {
                if (signs[start + i] != word.charAt(i)) return false;
            }
            return true;
        }

        /** The value of a number of one to three figures; NONE: it has more. */
        int value() {
            if (kind != NUMBER || end - start > 3 || end > length) return NONE;
            int value = 0;
            for (int i = start; i < end; i++) value = 10 * value + signs[i] - '0';
            return value;
        }
    }

    /** Reads the text into a draft of a meadow, up to the first fault. */
    private static final class Reader {
        private static final int MISPLACED = 1, TOO_MUCH = 2, TOO_OFTEN = 3, CELL_AGAIN = 4;
        private static final int MOST_GRASS_TOLD = 20, MOST_TITHES_TOLD = 20, MOST_THINGS_TOLD = 15;

        private final Text text;
        private final Land draft = new Land();
        private final boolean[] grassTold = new boolean[MOST_CELLS];
        private final boolean[] titheTold = new boolean[MOST_CELLS];
        private int grassCount, titheCount, thingCount;
        private boolean cowTold, likesTold;
        private int fault, faultPlace;

        Reader(Text text) {
            this.text = text;
            faultPlace = NONE;
        }

        /** How many cells the draft has then; -10 less the number of the fault. */
        int read() {
            begin();
            text.nextToken();
            if (text.kind != Text.END && readSize()) {
                text.nextToken();
                for (int entry = 0; entry < MOST_BYTES && text.kind != Text.END; entry++) {
                    if (!readEntry()) break;
                    text.nextToken();
                }
            }
            return fault == 0 ? draft.cells : -10 - fault;
        }

        private void begin() {
            draft.clear();
            grassCount = 0;
            titheCount = 0;
            thingCount = 0;
            cowTold = false;
            likesTold = false;
            for (int c = 0; c < MOST_CELLS; c++) {
                grassTold[c] = false;
                titheTold[c] = false;
            }
            text.rewind();
            fault = 0;
            faultPlace = NONE;
        }

        /** False always: what calls it stops there. */
        private boolean fail(int number) {
            fault = number;
            faultPlace = text.start;
            return false;
        }

        /** The number that is next; NONE behind a fault. */
        private int readNumber(int least, int most) {
            text.nextToken();
            if (text.kind != Text.NUMBER) {
                fail(MISPLACED);
                return NONE;
            }
            int value = text.value();
            if (value < least || value > most) {
                fail(TOO_MUCH);
                return NONE;
            }
            return value;
        }

        private boolean readStop() {
            text.nextToken();
            return text.kind == Text.STOP || fail(MISPLACED);
        }

        /** The cell that is next, its X and Y on the meadow; NONE behind a fault. */
        private int readCell() {
            int x = readNumber(0, draft.width - 1);
            if (x < 0) return NONE;
            int y = readNumber(0, draft.height - 1);
            if (y < 0) return NONE;
            return draft.cellAt(x, y);
        }

        private boolean readSize() {
            if (!text.isWord("meadow")) return fail(MISPLACED);
            int width = readNumber(1, MOST_SIDE);
            if (width < 0) return false;
            int height = readNumber(1, MOST_SIDE);
            if (height < 0) return false;
            if (width * height > MOST_CELLS) return fail(TOO_MUCH);
            draft.layOut(width, height);
            return readStop();
        }

        private boolean readEntry() {
            if (text.isWord("grass")) {
                grassCount++;
                return grassCount > MOST_GRASS_TOLD ? fail(TOO_OFTEN) : readValue(grassTold, draft.grass, 9);
            }
            if (text.isWord("tithe")) {
                titheCount++;
                return titheCount > MOST_TITHES_TOLD ? fail(TOO_OFTEN) : readValue(titheTold, draft.tithe, 99);
            }
            if (text.isWord("thing")) {
                thingCount++;
                return thingCount > MOST_THINGS_TOLD ? fail(TOO_OFTEN) : readThing();
            }
            if (text.isWord("cow")) return cowTold ? fail(TOO_OFTEN) : readCow();
            if (text.isWord("likes")) return likesTold ? fail(TOO_OFTEN) : readLikes();
            return fail(text.isWord("meadow") ? TOO_OFTEN : MISPLACED);
        }

        /** A cell and a number that is told of it, each cell once. */
        private boolean readValue(boolean[] told, int[] values, int most) {
            int c = readCell();
            if (!draft.has(c) || c >= told.length || c >= values.length) return false;
            if (told[c]) return fail(CELL_AGAIN);
            told[c] = true;
            int value = readNumber(0, most);
            if (value < 0) return false;
            values[c] = value;
            return readStop();
        }

        private boolean readThing() {
            text.nextToken();
            int thing = thingOfWord();
            if (thing == 0) return fail(MISPLACED);
            int c = readCell();
            if (!draft.has(c)) return false;
            if ((draft.things[c] & thing) != 0) return fail(CELL_AGAIN);
            draft.things[c] |= thing;
            return readStop();
        }

        private int thingOfWord() {
            if (text.isWord("shade")) return Land.SHADE;
            if (text.isWord("water")) return Land.WATER;
            return text.isWord("flies") ? Land.FLIES : 0;
        }

        private boolean readCow() {
            cowTold = true;
            int c = readCell();
            if (!draft.has(c)) return false;
            int hours = readNumber(1, 8);
            if (hours < 0) return false;
            draft.wakes = c;
            draft.hours = hours;
            return readStop();
        }

        private boolean readLikes() {
            likesTold = true;
            int grass = readNumber(0, 9);
            if (grass < 0) return false;
            int shade = readNumber(0, 9);
            if (shade < 0) return false;
            int water = readNumber(0, 9);
            if (water < 0) return false;
            int flies = readNumber(0, 9);
            if (flies < 0) return false;
            draft.setLikes(grass, shade, water, flies);
            return readStop();
        }
    }

    /** The meadow as its text tells it: what no day changes. */
    private static final class Land {
        private static final int SHADE = 1, WATER = 2, FLIES = 4;

        private int width, height, cells;
        private int wakes, hours;
        private int likesGrass, likesShade, likesWater, hatesFlies;
        private final int[] x = new int[MOST_CELLS];
        private final int[] y = new int[MOST_CELLS];
        private final int[] grass = new int[MOST_CELLS];
        private final int[] things = new int[MOST_CELLS];
        private final int[] tithe = new int[MOST_CELLS];
        /** From each cell, five places wide: where she may go, in her order. */
        private final int[] ways = new int[MOST_CELLS * MOST_WAYS];
        private final int[] wayCount = new int[MOST_CELLS];

        Land() {
            clear();
        }

        void clear() {
            width = 0;
            height = 0;
            cells = 0;
            wakes = NONE;
            hours = 4;
            setLikes(2, 3, 3, 4);
        }

        void setLikes(int ofGrass, int ofShade, int ofWater, int ofFlies) {
            likesGrass = ofGrass;
            likesShade = ofShade;
            likesWater = ofWater;
            hatesFlies = ofFlies;
        }

        /** The cells with all that is so when nothing more is told. */
        void layOut(int newWidth, int newHeight) {
            clear();
            if (newWidth < 1 || newWidth > MOST_SIDE || newHeight < 1 || newHeight > MOST_SIDE) return;
            if (newWidth * newHeight > MOST_CELLS) return;
            width = newWidth;
            height = newHeight;
            cells = newWidth * newHeight;
            wakes = 0;
            for (int row = 0; row < height; row++) {
                for (int column = 0; column < width; column++) layCell(column, row);
            }
        }

        private void layCell(int column, int row) {
            int c = cellAt(column, row);
            if (!has(c)) return;
            x[c] = column;
            y[c] = row;
            grass[c] = 1;
            things[c] = 0;
            tithe[c] = 1;
            wayCount[c] = 0;
            addWay(c, column, row);
            addWay(c, column, row - 1);
            addWay(c, column + 1, row);
            addWay(c, column, row + 1);
            addWay(c, column - 1, row);
        }

        private void addWay(int from, int column, int row) {
            int to = cellAt(column, row);
            if (!has(to) || wayCount[from] >= MOST_WAYS) return;
            ways[from * MOST_WAYS + wayCount[from]] = to;
            wayCount[from]++;
        }

        void takeFrom(Land other) {
            width = other.width;
            height = other.height;
            cells = other.cells;
            wakes = other.wakes;
            hours = other.hours;
            setLikes(other.likesGrass, other.likesShade, other.likesWater, other.hatesFlies);
            for (int c = 0; c < MOST_CELLS; c++) {
                x[c] = other.x[c];
                y[c] = other.y[c];
                grass[c] = other.grass[c];
                things[c] = other.things[c];
                tithe[c] = other.tithe[c];
                wayCount[c] = other.wayCount[c];
            }
            for (int i = 0; i < MOST_CELLS * MOST_WAYS; i++) ways[i] = other.ways[i];
        }

        boolean has(int c) {
            return c >= 0 && c < cells && c < MOST_CELLS;
        }

        int cellAt(int column, int row) {
            if (column < 0 || column >= width || row < 0 || row >= height) return NONE;
            return row * width + column;
        }

        int placeOf(int c) {
            return has(c) ? 10 * x[c] + y[c] : NONE;
        }

        /** The i-th cell where she may go from a cell; NONE: there is none. */
        int wayFrom(int c, int i) {
            if (c < 0 || c >= cells || c >= MOST_CELLS) return NONE;
            if (i < 0 || i >= wayCount[c] || i >= MOST_WAYS) return NONE;
            return ways[c * MOST_WAYS + i];
        }

        int liking(int c, int grassThere, boolean licked) {
            if (!has(c)) return 0;
            int sum = 1 + likesGrass * grassThere;
            if ((things[c] & SHADE) != 0) sum += likesShade;
            if ((things[c] & WATER) != 0) sum += likesWater;
            if ((things[c] & FLIES) != 0) sum -= hatesFlies;
            return Math.max(1, sum) + (licked ? LICK_LIKING : 0);
        }

        int tithesOf(int parish, int border, int law) {
            if (!has(border)) return 0;
            int sum = 0;
            for (int c = 0; c < cells; c++) {
                boolean isFirst = isFirstParish(c, border, law);
                if (isFirst == (parish == 0)) sum += tithe[c];
            }
            return sum;
        }

        private boolean isFirstParish(int c, int border, int law) {
            if (!has(c) || !has(border)) return false;
            if (law == 0) return x[c] < x[border] || x[c] == x[border] && y[c] < y[border];
            if (law == 1) return y[c] < y[border] || y[c] == y[border] && x[c] < x[border];
            return x[c] + y[c] < x[border] + y[border];
        }
    }

    /** What days change: all that an image keeps. */
    private static final class Pasture {
        private final Land land;
        private final int[] grass = new int[MOST_CELLS];
        private final int[] atFirst = new int[MOST_CELLS];
        private int wakes, noon, lick;
        private int purse0, purse1, days;
        private int law, seed;

        Pasture(Land land) {
            this.land = land;
            wakes = NONE;
            noon = NONE;
            lick = NONE;
        }

        /** A new meadow: law and seed stay. */
        void settle() {
            for (int c = 0; c < MOST_CELLS; c++) {
                grass[c] = land.grass[c];
                atFirst[c] = land.grass[c];
            }
            wakes = land.wakes;
            noon = NONE;
            lick = NONE;
            purse0 = 0;
            purse1 = 0;
            days = 0;
        }

        void takeFrom(Pasture other) {
            for (int c = 0; c < MOST_CELLS; c++) {
                grass[c] = other.grass[c];
                atFirst[c] = other.atFirst[c];
            }
            wakes = other.wakes;
            noon = other.noon;
            lick = other.lick;
            purse0 = other.purse0;
            purse1 = other.purse1;
            days = other.days;
            law = other.law;
            seed = other.seed;
        }

        int likingNow(int c) {
            return land.has(c) ? land.liking(c, grass[c], c == lick) : 0;
        }

        /** A morning, the border at noon, the night. */
        void passDay() {
            for (int hour = 0; hour < land.hours; hour++) {
                wakes = cellByDraw(wakes);
                eatAt(wakes);
            }
            noon = wakes;
            purse0 += land.tithesOf(0, noon, law);
            purse1 += land.tithesOf(1, noon, law);
            days++;
            growByNight();
        }

        private int cellByDraw(int from) {
            int all = 0;
            for (int i = 0; i < MOST_WAYS; i++) all += likingNow(land.wayFrom(from, i));
            int rest = draw(all);
            for (int i = 0; i < MOST_WAYS; i++) {
                int to = land.wayFrom(from, i);
                rest -= likingNow(to);
                if (rest < 0) return to;
            }
            return from;
        }

        private int draw(int n) {
            long next = seed * 1103515245L + 12345L;
            seed = (int) (next & 2147483647L);
            return n > 0 ? seed / 65536 % n : 0;
        }

        private void eatAt(int c) {
            if (land.has(c) && grass[c] > 0) grass[c]--;
        }

        private void growByNight() {
            for (int c = 0; c < MOST_CELLS; c++) {
                if (grass[c] < atFirst[c]) grass[c]++;
            }
        }
    }

    /** One of the two images; its pasture counts only while it is kept. */
    private static final class Image {
        private final Pasture pasture;
        private boolean kept;

        Image(Land land) {
            pasture = new Pasture(land);
        }
    }

    /** The odds, hour by hour, by likings that a trial may change. */
    private static final class Forecast {
        private final Land land;
        private final Pasture now;
        private final int[] likings = new int[MOST_CELLS];
        /** All likings together of where she may go to from a cell. */
        private final int[] together = new int[MOST_CELLS];
        private final long[] parts = new long[MOST_CELLS];
        private final long[] partsNext = new long[MOST_CELLS];

        Forecast(Land land, Pasture now) {
            this.land = land;
            this.now = now;
        }

        /** Likings as they are, were the lick on a cell (NONE: nowhere). */
        void lookAround(int lick) {
            for (int c = 0; c < land.cells; c++) {
                likings[c] = 0;
                together[c] = 0;
            }
            for (int c = 0; c < land.cells; c++) setLiking(c, land.liking(c, now.grass[c], c == lick));
        }

        /** The liking of a cell, were its grass another. */
        void tryGrass(int c, int grassThere) {
            setLiking(c, land.liking(c, grassThere, c == now.lick));
        }

        private void setLiking(int c, int liking) {
            if (!land.has(c)) return;
            int more = liking - likings[c];
            likings[c] = liking;
            // she may come to a cell from just those to which she may go from it
            for (int i = 0; i < MOST_WAYS; i++) {
                int from = land.wayFrom(c, i);
                if (land.has(from)) together[from] += more;
            }
        }

        void wake() {
            for (int c = 0; c < MOST_CELLS; c++) parts[c] = 0;
            if (land.has(now.wakes)) parts[now.wakes] = BILLION;
        }

        void run(int hours) {
            wake();
            for (int hour = 0; hour < hours; hour++) passHour();
        }

        private void passHour() {
            for (int c = 0; c < MOST_CELLS; c++) partsNext[c] = 0;
            for (int c = 0; c < land.cells; c++) {
                if (parts[c] > 0) partFrom(c);
            }
            for (int c = 0; c < MOST_CELLS; c++) parts[c] = partsNext[c];
        }

        private void partFrom(int c) {
            int all = together[c];
            if (all < 1) return;
            long rest = parts[c];
            int last = land.wayCount[c] - 1;
            for (int i = 0; i < last; i++) {
                int to = land.wayFrom(c, i);
                if (!land.has(to)) continue;
                long part = parts[c] * likings[to] / all;
                partsNext[to] += part;
                rest -= part;
            }
            int lastTo = land.wayFrom(c, last);
            if (land.has(lastTo)) partsNext[lastTo] += rest;
        }

        int likeliest() {
            int best = 0;
            for (int c = 1; c < land.cells; c++) {
                if (parts[c] > parts[best]) best = c;
            }
            return best;
        }

        /** Of the best watched hour: 0 the hour, 1 the cell, 2 its odds. */
        int bestWatched(int what) {
            int bestHour = 0;
            int bestCell = NONE;
            long bestOdds = 0;
            wake();
            for (int hour = 1; hour <= land.hours; hour++) {
                passHour();
                int c = likeliest();
                if (parts[c] < bestOdds) continue;
                bestHour = hour;
                bestCell = c;
                bestOdds = parts[c];
            }
            if (what == 0) return bestHour;
            return what == 1 ? land.placeOf(bestCell) : (int) bestOdds;
        }
    }

    /** Means, as they are and as they would be: nothing tried here stays. */
    private static final class Trials {
        private final Land land;
        private final Pasture now;
        private final Forecast forecast;
        private final int[] tithes0 = new int[MOST_CELLS];
        private final int[] tithes1 = new int[MOST_CELLS];
        private int bestMean;
        private int restCell0, restCell1;
        private int leastGap;

        Trials(Land land, Pasture now, Forecast forecast) {
            this.land = land;
            this.now = now;
            this.forecast = forecast;
        }

        /** The tithes by each border, once for all means of a call. */
        void reckonBorders() {
            for (int c = 0; c < land.cells; c++) {
                tithes0[c] = land.tithesOf(0, c, now.law);
                tithes1[c] = land.tithesOf(1, c, now.law);
            }
        }

        private int meanOf(int parish) {
            long sum = 0;
            for (int c = 0; c < land.cells; c++) {
                sum += forecast.parts[c] * (parish == 0 ? tithes0[c] : tithes1[c]);
            }
            return (int) (sum / BILLION);
        }

        int meanWithLick(int parish, int lick) {
            forecast.lookAround(lick);
            forecast.run(land.hours);
            return meanOf(parish);
        }

        /** The best clover of a parish, the other one's (or NONE) being sown; its mean goes to bestMean. */
        int bestClover(int parish, int k, int otherCell) {
            int best = NONE;
            forecast.lookAround(now.lick);
            if (land.has(otherCell)) forecast.tryGrass(otherCell, sown(now.grass[otherCell], k));
            for (int c = 0; c < land.cells; c++) {
                int before = c == otherCell ? sown(now.grass[c], k) : now.grass[c];
                forecast.tryGrass(c, sown(before, k));
                forecast.run(land.hours);
                forecast.tryGrass(c, before);
                int mean = meanOf(parish);
                if (best != NONE && mean <= bestMean) continue;
                best = c;
                bestMean = mean;
            }
            return best;
        }

        /** The rounds till neither would sow elsewhere; NONE: never. The cells go to restCell0, restCell1. */
        int roundsTillRest(int k) {
            restCell0 = bestClover(0, k, NONE);
            restCell1 = bestClover(1, k, NONE);
            for (int round = 0; round < MOST_ROUNDS; round++) {
                int was0 = restCell0;
                int was1 = restCell1;
                restCell0 = bestClover(0, k, restCell1);
                restCell1 = bestClover(1, k, restCell0);
                if (restCell0 == was0 && restCell1 == was1) return round;
            }
            return NONE;
        }

        /** The fairest cell for a lick; by how much the means differ goes to leastGap. */
        int fairestCell() {
            int best = NONE;
            for (int c = 0; c < land.cells; c++) {
                int mean0 = meanWithLick(0, c);
                int gap = Math.abs(mean0 - meanOf(1));
                if (best != NONE && gap >= leastGap) continue;
                best = c;
                leastGap = gap;
            }
            return best;
        }
    }

    /** Dung that was seen, and the cells on which she can have lain. */
    private static final class Sightings {
        private final Land land;
        private final Pasture now;
        private final int[] cellSeen = new int[MOST_SEEN];
        private final int[] hourSeen = new int[MOST_SEEN];
        private int count;
        private final boolean[] reached = new boolean[MOST_CELLS];
        private final boolean[] reachedNext = new boolean[MOST_CELLS];

        Sightings(Land land, Pasture now) {
            this.land = land;
            this.now = now;
        }

        void add(int c, int hour) {
            if (count < 0 || count >= MOST_SEEN) return;
            cellSeen[count] = c;
            hourSeen[count] = hour;
            count++;
        }

        /** Afterwards reached tells the cells on which she can lie at noon. */
        void followToNoon() {
            for (int c = 0; c < MOST_CELLS; c++) reached[c] = false;
            if (land.has(now.wakes)) reached[now.wakes] = true;
            keepSeen(0);
            for (int hour = 1; hour <= land.hours; hour++) {
                spread();
                keepSeen(hour);
            }
        }

        private void spread() {
            for (int c = 0; c < MOST_CELLS; c++) reachedNext[c] = false;
            for (int c = 0; c < land.cells; c++) {
                if (reached[c]) reachFrom(c);
            }
            for (int c = 0; c < MOST_CELLS; c++) reached[c] = reachedNext[c];
        }

        private void reachFrom(int c) {
            for (int i = 0; i < MOST_WAYS; i++) {
                int to = land.wayFrom(c, i);
                if (land.has(to)) reachedNext[to] = true;
            }
        }

        private void keepSeen(int hour) {
            for (int i = 0; i < count && i < MOST_SEEN; i++) {
                if (hourSeen[i] != hour) continue;
                for (int c = 0; c < MOST_CELLS; c++) {
                    if (c != cellSeen[i]) reached[c] = false;
                }
            }
        }

        private boolean fits(int c, int sum) {
            if (!land.has(c) || !reached[c]) return false;
            return sum == NONE || land.tithesOf(0, c, now.law) == sum;
        }

        int countFitting(int sum) {
            int fitting = 0;
            for (int c = 0; c < land.cells; c++) {
                if (fits(c, sum)) fitting++;
            }
            return fitting;
        }

        /** The i-th of the cells that fit; NONE: not so many. */
        int fittingCell(int sum, int i) {
            int before = 0;
            for (int c = 0; c < land.cells; c++) {
                if (!fits(c, sum)) continue;
                if (before == i) return c;
                before++;
            }
            return NONE;
        }
    }

    /** The book of borders: cells, and what the first parish is said to have by them. */
    private static final class Book {
        private final Land land;
        private final int[] borders = new int[MOST_ENTRIES];
        private final int[] sums = new int[MOST_ENTRIES];
        private int count;

        Book(Land land) {
            this.land = land;
        }

        void add(int border, int sum) {
            if (count < 0 || count >= MOST_ENTRIES) return;
            borders[count] = border;
            sums[count] = sum;
            count++;
        }

        int firstWrong(int law) {
            for (int i = 0; i < count && i < MOST_ENTRIES; i++) {
                if (land.tithesOf(0, borders[i], law) != sums[i]) return i;
            }
            return NONE;
        }
    }
}
