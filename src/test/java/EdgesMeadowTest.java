/** The edges that Terms 1 (THE MEADOW, its text, its FAULTS) and promises 1 to 7 name. */
public final class EdgesMeadowTest {
    private static final Check check = new Check();
    private static final int NONE = Check.NONE, UNKNOWN = Check.UNKNOWN, NOT = Check.NOT, FULL = Check.FULL;

    public static void main(String[] args) {
        terms1Sizes();
        terms1CellsOfEntries();
        terms1Grass();
        terms1Things();
        terms1Tithes();
        terms1Cow();
        terms1Likes();
        terms1AsTheyCome();
        terms1NumbersOfThreeFigures();
        terms1EachByteAlone();
        terms1EachByteBetween();
        terms1Blanks();
        terms1EachEnd();
        terms1Fault1();
        terms1Fault3();
        terms1FirstByteThenLeastFault();
        terms1NoText();
        promise1NewObject();
        promise2Bytes();
        promise2Full();
        promise3TextIsEmptyThen();
        promise3NewMeadow();
        promise3FaultLeavesAll();
        promise3EachTextForItself();
        promise4FaultOfTheLatest();
        promise5Told();
        promise6Cell();
        promise7Tithes();
        check.end();
    }

    /** A text without a FAULT: so many CELLS. */
    private static CowLies good(int cells, String text) {
        CowLies x = new CowLies();
        check.due("meadow() of " + text, Check.meadow(x, text), cells);
        check.due("fault() of " + text, x.fault(), NONE);
        return x;
    }

    private static void bad(int number, int place, String text) {
        CowLies x = new CowLies();
        check.due("meadow() of " + text, Check.meadow(x, text), -10 - number);
        check.due("fault() of " + text, x.fault(), place);
        check.due("cells behind " + text, x.told(0), 0);
    }

    /** The FAULT is due at the place of the '#', which is left out of the text. */
    private static void fault(int number, String marked) {
        bad(number, marked.indexOf('#'), marked.replace("#", ""));
    }

    // ---- Terms 1

    private static void terms1Sizes() {
        check.sentence("Terms 1: W, H 1 .. 9, 40 CELLS at most");
        for (int w = 0; w <= 10; w++) {
            for (int h = 0; h <= 10; h++) {
                String text = "meadow " + w + " " + h + ";";
                if (w < 1 || w > 9) {
                    bad(2, 7, text);
                } else if (h < 1 || h > 9 || w * h > 40) {
                    bad(2, 9, text);
                } else {
                    CowLies x = good(w * h, text);
                    check.due("W of " + text, x.told(0), w);
                    check.due("H of " + text, x.told(1), h);
                    check.due("the last CELL of " + text, x.cell(w - 1, h - 1, 0), 1);
                    check.due("none behind it in " + text, x.cell(w, h - 1, 0), UNKNOWN);
                    check.due("none below it in " + text, x.cell(w - 1, h, 0), UNKNOWN);
                }
            }
        }
        fault(2, "meadow #999 999;");
        fault(2, "meadow 9 #999;");
    }

    private static void terms1CellsOfEntries() {
        check.sentence("Terms 1: CELLS X 0 .. W less 1, Y 0 .. H less 1");
        String[][] entries = {{"grass ", " 1;"}, {"thing shade ", ";"}, {"thing water ", ";"}, {"thing flies ", ";"},
            {"tithe ", " 1;"}, {"cow ", " 1;"}};
        for (String[] e : entries) {
            good(6, "meadow 3 2;" + e[0] + "0 0" + e[1]);
            good(6, "meadow 3 2;" + e[0] + "2 0" + e[1]);
            good(6, "meadow 3 2;" + e[0] + "0 1" + e[1]);
            good(6, "meadow 3 2;" + e[0] + "2 1" + e[1]);
            fault(2, "meadow 3 2;" + e[0] + "#3 0" + e[1]);
            fault(2, "meadow 3 2;" + e[0] + "0 #2" + e[1]);
            fault(2, "meadow 3 2;" + e[0] + "1 #2" + e[1]);
            fault(2, "meadow 2 3;" + e[0] + "#2 2" + e[1]);
            fault(1, "meadow 3 2;" + e[0] + "#-1 0" + e[1]);
            fault(1, "meadow 3 2;" + e[0] + "0 #-1" + e[1]);
            good(9, "meadow 9 1;" + e[0] + "8 0" + e[1]);
            fault(2, "meadow 9 1;" + e[0] + "#9 0" + e[1]);
            good(9, "meadow 1 9;" + e[0] + "0 8" + e[1]);
            fault(2, "meadow 1 9;" + e[0] + "0 #9" + e[1]);
        }
    }

    /** So many entries of a word, each on a CELL of its own of eight by five. */
    private static String entries(String word, int many, String value) {
        StringBuilder text = new StringBuilder();
        for (int i = 0; i < many; i++) text.append(word).append(i % 8).append(' ').append(i / 8).append(value).append(';');
        return text.toString();
    }

    private static void terms1Grass() {
        check.sentence("Terms 1: GRASS 0 .. 9 in place of 1");
        CowLies x = good(3, "meadow 3 1;grass 0 0 0;grass 2 0 9;");
        check.due("the least", x.cell(0, 0, 0), 0);
        check.due("untold", x.cell(1, 0, 0), 1);
        check.due("the greatest", x.cell(2, 0, 0), 9);
        check.due("the least at first", x.cell(0, 0, 1), 0);
        check.due("untold at first", x.cell(1, 0, 1), 1);
        check.due("the greatest at first", x.cell(2, 0, 1), 9);
        fault(2, "meadow 3 1;grass 0 0 #10;");
        fault(1, "meadow 3 1;grass 0 0 #-1;");
        check.sentence("Terms 1: 'grass' 20 at most");
        good(40, "meadow 8 5;" + entries("grass", 19, " 0"));
        good(40, "meadow 8 5;" + entries("grass", 20, " 0"));
        fault(3, "meadow 8 5;" + entries("grass", 20, " 0") + "#grass 4 2 0;");
        check.sentence("Terms 1: 'grass' each CELL once");
        fault(4, "meadow 3 1;grass 2 0 1;grass 2 #0 1;");
        fault(4, "meadow 3 1;grass 2 0 1;tithe 2 0 1;grass 1 0 1;grass 2 #0 10;");
        good(3, "meadow 3 1;grass 2 0 1;grass 1 0 1;grass 0 0 1;");
    }

    private static void terms1Things() {
        check.sentence("Terms 1: 'thing' KIND 'shade' 'water' 'flies'");
        fault(1, "meadow 3 1;thing #grass 0 0;");
        fault(1, "meadow 3 1;thing #shad 0 0;");
        fault(1, "meadow 3 1;thing #shades 0 0;");
        fault(1, "meadow 3 1;thing #fly 0 0;");
        check.sentence("Terms 1: 'thing' 15 at most");
        good(40, "meadow 8 5;" + entries("thing shade", 14, ""));
        good(40, "meadow 8 5;" + entries("thing shade", 15, ""));
        fault(3, "meadow 8 5;" + entries("thing shade", 15, "") + "#thing flies 7 4;");
        String three = entries("thing shade", 5, "") + entries("thing water", 5, "") + entries("thing flies", 5, "");
        CowLies x = good(40, "meadow 8 5;" + three);
        check.due("the last three of fifteen", x.cell(4, 0, 2), 7);
        fault(3, "meadow 8 5;" + three + "#thing flies 7 4;");
        check.sentence("Terms 1: each KIND on a CELL once");
        for (String kind : new String[] {"shade", "water", "flies"}) {
            fault(4, "meadow 3 1;thing " + kind + " 2 0;thing " + kind + " 2 #0;");
            good(3, "meadow 3 1;thing " + kind + " 2 0;thing " + kind + " 1 0;thing " + kind + " 0 0;");
        }
        fault(4, "meadow 3 1;thing shade 2 0;thing water 2 0;thing flies 2 0;thing water 2 #0;");
        check.due("all three on a CELL", good(3, "meadow 3 1;thing flies 1 0;thing shade 1 0;thing water 1 0;").cell(1, 0, 2), 7);
    }

    private static void terms1Tithes() {
        check.sentence("Terms 1: 'tithe' 0 .. 99 in place of 1");
        CowLies x = good(3, "meadow 3 1;tithe 0 0 0;tithe 2 0 99;");
        check.due("the least", x.cell(0, 0, 3), 0);
        check.due("untold", x.cell(1, 0, 3), 1);
        check.due("the greatest", x.cell(2, 0, 3), 99);
        fault(2, "meadow 3 1;tithe 0 0 #100;");
        fault(1, "meadow 3 1;tithe 0 0 #-1;");
        check.sentence("Terms 1: 'tithe' 20 at most");
        good(40, "meadow 8 5;" + entries("tithe", 19, " 0"));
        good(40, "meadow 8 5;" + entries("tithe", 20, " 0"));
        fault(3, "meadow 8 5;" + entries("tithe", 20, " 0") + "#tithe 4 2 0;");
        check.sentence("Terms 1: 'tithe' each CELL once");
        fault(4, "meadow 3 1;tithe 2 0 1;tithe 2 #0 1;");
        fault(4, "meadow 3 1;tithe 2 0 1;grass 2 0 1;tithe 1 0 1;tithe 2 #0 100;");
        good(3, "meadow 3 1;tithe 2 0 1;tithe 1 0 1;tithe 0 0 1;");
    }

    private static void terms1Cow() {
        check.sentence("Terms 1: 'cow' N hours till noon, 1 .. 8");
        check.due("the least N", good(3, "meadow 3 1;cow 2 0 1;").told(4), 1);
        check.due("the greatest N", good(3, "meadow 3 1;cow 2 0 8;").told(4), 8);
        fault(2, "meadow 3 1;cow 2 0 #0;");
        fault(2, "meadow 3 1;cow 2 0 #9;");
        check.sentence("Terms 1: 'cow' 0 0 4 untold");
        CowLies untold = good(3, "meadow 3 1;grass 0 0 3;");
        check.due("where she wakes", untold.told(5), 0);
        check.due("N", untold.told(4), 4);
        check.sentence("Terms 1: 'cow' once");
        fault(3, "meadow 3 1;cow 0 0 4;#cow 0 0 4;");
        fault(3, "meadow 3 1;cow 2 0 1;grass 0 0 3;#cow 9");
    }

    private static void terms1Likes() {
        check.sentence("Terms 1: 'likes' 0 .. 9 each");
        String three = "meadow 3 1;grass 0 0 1;thing shade 0 0;grass 1 0 0;thing water 1 0;grass 2 0 9;thing flies 2 0;";
        CowLies least = good(3, three + "likes 0 0 0 0;");
        for (int column = 0; column < 3; column++) check.due("all the least", least.cell(column, 0, 4), 1);
        CowLies greatest = good(3, three + "likes 9 9 9 9;");
        check.due("1, grass, shade", greatest.cell(0, 0, 4), 1 + 9 + 9);
        check.due("1, water", greatest.cell(1, 0, 4), 1 + 9);
        check.due("1, grass, flies", greatest.cell(2, 0, 4), 1 + 81 - 9);
        fault(2, "meadow 3 1;likes #10 9 9 9;");
        fault(2, "meadow 3 1;likes 9 #10 9 9;");
        fault(2, "meadow 3 1;likes 9 9 #10 9;");
        fault(2, "meadow 3 1;likes 9 9 9 #10;");
        check.sentence("Terms 1: 'likes' 2 3 3 4 untold");
        CowLies untold = good(3, three);
        check.due("1, grass, shade", untold.cell(0, 0, 4), 1 + 2 + 3);
        check.due("1, water", untold.cell(1, 0, 4), 1 + 3);
        check.due("1, grass, flies", untold.cell(2, 0, 4), 1 + 18 - 4);
        check.sentence("Terms 1: 'likes' once");
        fault(3, "meadow 3 1;likes 2 3 3 4;#likes 2 3 3 4;");
        fault(3, "meadow 3 1;likes 2 3 3 4;cow 0 0 1;#likes");
    }

    private static void terms1AsTheyCome() {
        check.sentence("Terms 1: then, as they come");
        String[] entries = {"grass 1 0 5;", "thing flies 1 0;", "tithe 1 0 6;", "cow 1 0 2;", "likes 3 0 0 1;"};
        for (int first = 0; first < 5; first++) {
            StringBuilder text = new StringBuilder("meadow 2 1;");
            for (int i = 0; i < 5; i++) text.append(entries[(first + i) % 5]);
            CowLies x = good(2, text.toString());
            check.due("liking by " + text, x.cell(1, 0, 4), 1 + 15 - 1);
            check.due("tithe by " + text, x.cell(1, 0, 3), 6);
            check.due("where she wakes by " + text, x.told(5), 10);
        }
        good(2, "meadow 2 1;");
    }

    private static void terms1NumbersOfThreeFigures() {
        check.sentence("Terms 1: NUMBERS have one to three figures");
        good(2, "meadow 2 1;");
        good(2, "meadow 02 01;");
        good(2, "meadow 002 001;tithe 001 000 099;grass 000 000 009;cow 001 000 008;likes 009 009 009 009;");
        fault(2, "meadow #0002 001;");
        fault(2, "meadow 002 #0001;");
        fault(2, "meadow 2 1;grass #0000 0 0;");
        fault(2, "meadow 2 1;grass 0 #0000 0;");
        fault(2, "meadow 2 1;grass 0 0 #0000;");
        fault(2, "meadow 2 1;tithe 0 0 #0001;");
        fault(2, "meadow 2 1;cow 0 0 #0001;");
        fault(2, "meadow 2 1;likes 0 0 0 #0000;");
        fault(2, "meadow 2 1;likes #0000");
        fault(2, "meadow 2 1;tithe 0 0 #999;");
        fault(2, "meadow 2 1;tithe 0 0 #1000;");
        fault(2, "meadow 2 1;tithe 0 0 #4294967296;");
        fault(2, "meadow 2 1;tithe 0 0 #18446744073709551616;");
        fault(2, "meadow 2 1;tithe 0 0 #" + "0".repeat(400));
    }

    /** Of all 256 bytes the blank alone is no FAULT; behind a whole meadow, too. */
    private static void terms1EachByteAlone() {
        check.sentence("Terms 1: 1 it cannot stand there; blanks (32)");
        for (char b = 0; b < 256; b++) {
            if (b == 32) continue;
            bad(1, 0, "" + b);
            bad(1, 11, "meadow 1 1;" + b);
        }
        good(0, " ");
        good(1, "meadow 1 1; ");
    }

    /** Each byte behind 'meadow' and behind a NUMBER: a figure or a letter is part of these. */
    private static void terms1EachByteBetween() {
        check.sentence("Terms 1: words are letters a .. z, NUMBERS are figures");
        for (char b = 0; b < 256; b++) {
            String behindWord = "meadow" + b + "1 1;";
            if (b == ' ' || b == '0') good(1, behindWord);
            else if (b >= '1' && b <= '9') bad(2, 6, behindWord);
            else if (b >= 'a' && b <= 'z') bad(1, 0, behindWord);
            else bad(1, 6, behindWord);
            String behindNumber = "meadow 1" + b + " 1;";
            if (b == ' ') good(1, behindNumber);
            else if (b >= '0' && b <= '9') bad(2, 7, behindNumber);
            else bad(1, 8, behindNumber);
        }
    }

    private static void terms1Blanks() {
        check.sentence("Terms 1: blanks may stand anywhere but within words and NUMBERS");
        String[] tokens = {"meadow", "2", "1", ";", "grass", "1", "0", "5", ";", "thing", "flies", "0", "0", ";",
            "tithe", "1", "0", "6", ";", "cow", "1", "0", "2", ";", "likes", "3", "0", "0", "1", ";"};
        for (String blanks : new String[] {" ", "  ", "     "}) {
            CowLies x = good(2, blanks + String.join(blanks, tokens) + blanks);
            check.due("grass", x.cell(1, 0, 0), 5);
            check.due("where she wakes", x.told(5), 10);
        }
        check.sentence("Terms 1: two words, two NUMBERS side by side need one, nothing else does");
        CowLies x = good(2, "meadow2 1;grass1 0 5;thing flies0 0;tithe1 0 6;cow1 0 2;likes3 0 0 1;");
        check.due("grass", x.cell(1, 0, 0), 5);
        fault(1, "meadow 2 1;#thingflies 0 0;");
        fault(2, "meadow #21;");
        fault(2, "meadow 2 1;grass #10 5;");
        fault(1, "#mea dow 2 1;");
        fault(1, "meadow 2 1;#gra ss 1 0 5;");
        fault(1, "meadow 2 1;thing #fl ies 1 0;");
        fault(1, "meadow 2 1;tithe 1 0 1 #2;");
    }

    /** Each beginning of a text that ends elsewhere than behind a ';'. */
    private static void terms1EachEnd() {
        check.sentence("Terms 1: FAULTS, the end at the text's length");
        String text = "meadow 4 3;grass 0 0 5; thing flies 0 0;tithe 0 0 20;cow 1 1 3;likes 1 2 3 4;";
        String whole = " meadow grass thing flies tithe cow likes ";
        for (int n = 0; n <= text.length(); n++) {
            String begun = text.substring(0, n);
            int letters = n;
            while (letters > 0 && begun.charAt(letters - 1) >= 'a' && begun.charAt(letters - 1) <= 'z') letters--;
            String told = begun.stripTrailing();
            if (told.isEmpty() || told.endsWith(";")) good(n == 0 ? 0 : 12, begun);
            else if (letters < n && !whole.contains(" " + begun.substring(letters) + " ")) bad(1, letters, begun);
            else bad(1, n, begun);
        }
        fault(1, "meadow 4 3   #");
        bad(1, 500, "meadow 4 3" + " ".repeat(490));
        bad(1, 500, " ".repeat(494) + "meadow");
        bad(1, 499, " ".repeat(499) + ";");
    }

    private static void terms1Fault1() {
        check.sentence("Terms 1: 1 a word that cannot, another one first than 'meadow': at its first letter");
        fault(1, "#likes 1 1 1 1;");
        fault(1, "  #tithe 0 0 1;");
        fault(1, "#thing shade 0 0;");
        fault(1, "#meadowmeadow 1 1;");
        fault(1, "meadow 1 1;#a");
        fault(1, "meadow 1 1;#zzzzzzzzzzzzzzzzzzzzzz");
        fault(1, "meadow 1 1;#gras 0 0 1;");
        fault(1, "meadow 1 1;#grasss 0 0 1;");
        fault(1, "meadow 1 1;#things shade 0 0;");
        fault(1, "meadow 1 1;#cows 0 0 1;");
        fault(1, "meadow 1 1;#like 1 1 1 1;");
        fault(1, "meadow 1 1;#water 0 0;");
        fault(1, "meadow #cow 1;");
        fault(1, "meadow 1 1;grass #flies 0 0;");
        fault(1, "meadow 1 1;cow 0 #zero 1;");
    }

    private static void terms1Fault3() {
        check.sentence("Terms 1: 3 at its first letter, whatever comes behind");
        fault(3, "meadow 1 1;#meadow");
        fault(3, "meadow 1 1;  #meadow 10 10");
        fault(3, "meadow 1 1;cow 0 0 1;#cow");
        fault(3, "meadow 1 1;likes 0 0 0 0;#likes -");
        fault(3, "meadow 8 5;" + entries("grass", 20, " 1") + "  #grass 0 0");
        fault(3, "meadow 8 5;" + entries("tithe", 20, " 1") + "#tithe 9 9 999;");
        fault(3, "meadow 8 5;" + entries("thing flies", 15, "") + "#thing thing");
        check.sentence("Terms 1: what is once or so many times at most is counted for itself");
        String full = "meadow 8 5;" + entries("grass", 20, " 1") + entries("tithe", 20, " 1");
        good(40, full + "cow7 4 8;");
        fault(3, full + "#grass 7 4 1;");
        fault(3, full + "#tithe 7 4 1;");
        fault(3, "meadow 8 5;" + entries("thing flies", 15, "") + "cow0 0 1;likes 1 1 1 1;grass 0 0 1;#thing shade 0 0;");
    }

    private static void terms1FirstByteThenLeastFault() {
        check.sentence("Terms 1: FAULTS, at the first byte that has one, of these the least");
        // what would be 3 elsewhere cannot stand there at all
        fault(1, "meadow 1 1 #meadow 1 1;");
        fault(1, "meadow 1 1;cow 0 0 1 #cow 0 0 1;");
        fault(1, "meadow 1 1;cow 0 0 1;likes 1 1 1 1;grass 0 0 #likes;");
        fault(1, "meadow 8 5;" + entries("thing flies", 15, "") + "cow0 0 #thing");
        // a NUMBER that is too much cannot stand there at all
        fault(1, "meadow 1 1 #1000;");
        fault(1, "meadow 1 1;#1000;");
        fault(1, "meadow 1 1;thing #1000 0 0;");
        // what is too much is no CELL again
        fault(2, "meadow 2 2;grass 0 0 1;grass 0 #0000 1;");
        // a CELL again comes ahead of what is wrong behind it
        fault(4, "meadow 2 2;grass 0 0 1;grass 0 #0;");
        fault(4, "meadow 2 2;tithe 0 0 1;tithe 0 #0 x");
        fault(4, "meadow 2 2;thing flies 1 1;thing flies 1 #1 1");
        // the first place, whatever comes later
        fault(2, "meadow 2 2;grass #2 2 10 10");
        fault(2, "meadow 2 2;cow 0 0 #9;cow 0 0 9;meadow");
        fault(1, "meadow 2 2;grass 0 0 #;grass 0 0 1;");
    }

    private static void terms1NoText() {
        check.sentence("Terms 1: an empty text (or one of blanks alone) has no FAULT: no CELLS");
        for (int blanks : new int[] {0, 1, 2, 499, 500}) {
            CowLies x = good(0, " ".repeat(blanks));
            check.due("W of " + blanks + " blanks", x.told(0), 0);
            check.due("H of " + blanks + " blanks", x.told(1), 0);
            check.due("N of " + blanks + " blanks", x.told(4), 4);
            check.due("where she wakes by " + blanks + " blanks", x.told(5), NONE);
            check.due("day(1) by " + blanks + " blanks", x.day(1), NOT);
        }
    }

    // ---- promises 1 to 7

    private static void promise1NewObject() {
        check.sentence("Promise 1: no CELLS");
        CowLies x = new CowLies();
        check.due("W", x.told(0), 0);
        check.due("H", x.told(1), 0);
        check.due("no CELL", x.cell(0, 0, 0), UNKNOWN);
        check.sentence("Terms 3: THE SEED 0 at first, LICK none at first; Terms 2: LAW 0 at first");
        check.due("seed(5)", x.seed(5), 0);
        check.due("LAW", x.told(3), 0);
        check.due("the LICK", x.told(7), NONE);
    }

    private static void promise2Bytes() {
        check.sentence("Promise 2: the lowest n bytes of a long, the highest of these first");
        for (int n = 1; n <= 8; n++) {
            CowLies x = new CowLies();
            // what stands above the lowest n bytes is not fed
            long fed = n == 8 ? Check.bytes("meadow 2") : -1L << 8 * n | Check.bytes("meadow 2".substring(0, n));
            check.due("feed(" + n + ", ..)", x.feed(n, fed), n);
            check.due("told(2)", x.told(2), n);
            Check.feed(x, "meadow 2".substring(n) + " 3;");
            check.due("meadow() begun with " + n, x.meadow(), 6);
        }
        CowLies signed = new CowLies();
        check.due("feed(8, -1)", signed.feed(8, -1L), 8);
        check.due("meadow()", signed.meadow(), -11);
        check.due("fault()", signed.fault(), 0);
        CowLies zero = new CowLies();
        check.due("feed(8, 0)", zero.feed(8, 0), 8);
        check.due("eight bytes of 0 are no blanks", zero.meadow(), -11);
        check.sentence("Promise 2: come behind THE TEXT: how many it has");
        CowLies x = new CowLies();
        for (int i = 1; i <= 20; i++) check.due("feed(1), the " + i + "th", x.feed(1, ' '), i);
    }

    private static void promise2Full() {
        check.sentence("Promise 2: FULL (500)");
        for (int n = 1; n <= 8; n++) {
            CowLies x = new CowLies();
            Check.feed(x, "meadow 1 1;" + " ".repeat(489 - n));
            check.due("told(2)", x.told(2), 500 - n);
            if (n < 8) check.due("feed(" + (n + 1) + ") to 501", x.feed(n + 1, -1L), FULL);
            check.due("told(2) as it was", x.told(2), 500 - n);
            check.due("feed(" + n + ") to 500", x.feed(n, Check.bytes("        ")), 500);
            check.due("feed(1) to 501", x.feed(1, ' '), FULL);
            check.due("told(2) full", x.told(2), 500);
            check.due("meadow() of 500", x.meadow(), 1);
            check.due("feed(1) behind it", x.feed(1, ' '), 1);
        }
    }

    private static void promise3TextIsEmptyThen() {
        check.sentence("Promise 3: THE TEXT is empty then, with a FAULT, too");
        CowLies x = new CowLies();
        check.due("meadow() of nothing", x.meadow(), 0);
        check.due("told(2)", x.told(2), 0);
        check.due("meadow() with a FAULT", Check.meadow(x, "meadow 1 1"), -11);
        check.due("told(2) with a FAULT", x.told(2), 0);
        check.due("it is not gone on with", Check.meadow(x, ";"), -11);
        check.due("meadow()", Check.meadow(x, "meadow 1 1;"), 1);
        check.due("told(2) without", x.told(2), 0);
        check.due("meadow() of no text is no CELLS", x.meadow(), 0);
        check.due("W", x.told(0), 0);
        check.sentence("Promise 3: -10 less the number of its FAULT");
        check.due("1", Check.meadow(x, "x"), -11);
        check.due("2", Check.meadow(x, "meadow 0 1;"), -12);
        check.due("3", Check.meadow(x, "meadow 1 1;meadow"), -13);
        check.due("4", Check.meadow(x, "meadow 1 1;grass 0 0 1;grass 0 0 1;"), -14);
    }

    private static CowLies used() {
        CowLies x = Check.of("meadow 2 2;grass 0 0 9;thing water 1 1;tithe 0 0 50;cow 1 1 5;likes 1 2 3 4;");
        x.seed(99);
        x.law(1);
        x.sow(0, 1, 4);
        x.lick(1, 0);
        x.day(3);
        x.see(1, 1, 8);
        x.write(1, 1, 3);
        x.keep(0);
        x.day(1);
        x.keep(1);
        return x;
    }

    private static void promise3NewMeadow() {
        check.sentence("Promise 3: no NOON, LICK; PURSES, DAYS 0; nothing SEEN, told, no BOOK; IMAGES are gone; LAW, THE SEED stay");
        for (String text : new String[] {"meadow 2 2;", "", "   "}) {
            CowLies x = used();
            int seed = x.seed(0);
            x.seed(seed);
            CowLies fresh = new CowLies();
            fresh.law(1);
            fresh.seed(seed);
            check.due("meadow() of '" + text + "'", Check.meadow(x, text), text.isEmpty() || text.isBlank() ? 0 : 4);
            Check.meadow(fresh, text);
            check.dueText("all behind '" + text + "'", Check.allOf(x), Check.allOf(fresh));
        }
    }

    private static void promise3FaultLeavesAll() {
        check.sentence("Promise 3: with a FAULT all else is as it was");
        String[] faulty = {"x", "meadow 3 3;cow 0 0 8;likes 9 9 9 9;grass 1 1 0;thing flies 1 1;tithe 1 1 0", "meadow 9 9;", "meadow 1 1;meadow",
            "meadow 2 2;tithe 1 1 9;tithe 1 1 9;"};
        for (String text : faulty) {
            CowLies x = used();
            check.holds("a FAULT in " + text, Check.meadow(x, text) < 0);
            check.dueText("all behind " + text, Check.allButFault(x), Check.allButFault(used()));
        }
        // nor does what a faulty text told stand in the next one
        CowLies x = new CowLies();
        Check.meadow(x, "meadow 2 2;grass 0 0 5;tithe 0 0 5;thing flies 0 0;cow 1 1 8;likes 9 9 9 9;x");
        Check.meadow(x, "meadow 2 2;");
        check.dueText("behind a FAULT and a plain text", Check.allOf(x), Check.allOf(Check.of("meadow 2 2;")));
    }

    /** What is once, or so many times at most, is so in each text; one with a FAULT counts for nothing. */
    private static void promise3EachTextForItself() {
        check.sentence("Promise 3, Terms 1: once, each CELL once, so many at most: in one text");
        String[] full = {"meadow 8 5;" + entries("grass", 20, " 2"), "meadow 8 5;" + entries("tithe", 20, " 2"),
            "meadow 8 5;" + entries("thing water", 15, ""), "meadow 8 5;cow 1 1 8;likes 1 1 1 1;"};
        for (String text : full) {
            CowLies x = good(40, text);
            check.due("again " + text, Check.meadow(x, text), 40);
            check.due("with a FAULT " + text, Check.meadow(x, text + ";"), -11);
            check.due("behind it " + text, Check.meadow(x, text), 40);
            check.due("too many: 20 in one text and 1 in the next are not", Check.meadow(x, "meadow 8 5;grass 0 0 3;tithe 0 0 3;thing water 0 0;"), 40);
            check.due("the next one", x.cell(0, 0, 0), 3);
        }
    }

    private static void promise4FaultOfTheLatest() {
        check.sentence("Promise 4: the place of the FAULT of the latest meadow(); NONE");
        CowLies x = new CowLies();
        check.due("no meadow() yet", x.fault(), NONE);
        Check.feed(x, "meadow 1 1;x");
        check.due("a text not yet taken", x.fault(), NONE);
        x.meadow();
        check.due("behind it", x.fault(), 11);
        check.due("asked again", x.fault(), 11);
        Check.feed(x, "x");
        check.due("the next one not yet taken", x.fault(), 11);
        x.meadow();
        check.due("place 0", x.fault(), 0);
        Check.meadow(x, "meadow 1 1;");
        check.due("behind a text without a FAULT", x.fault(), NONE);
        Check.meadow(x, "meadow 1 1" + " ".repeat(490));
        check.due("place 500", x.fault(), 500);
        x.keep(0);
        x.goBack(0);
        x.tear();
        check.due("no other call changes it", x.fault(), 500);
        x.meadow();
        check.due("behind no text", x.fault(), NONE);
    }

    private static void promise5Told() {
        check.sentence("Promise 5: what is told of no CELLS");
        CowLies none = new CowLies();
        int[] untold = {0, 0, 0, 0, 4, NONE, NONE, NONE, 0, 0, 0, 0, 0};
        for (int what = 0; what <= 12; what++) check.due("told(" + what + ")", none.told(what), untold[what]);
        check.sentence("Promise 5: NOON, the LICK (NONE), all three as 10 times X and Y");
        CowLies x = Check.of("meadow 9 4;cow 8 3 1;");
        check.due("told(5) in the last CELL", x.told(5), 83);
        check.due("told(6) ahead of a day", x.told(6), NONE);
        check.due("told(7) ahead of a lick", x.told(7), NONE);
        x.lick(8, 3);
        check.due("told(7) in the last CELL", x.told(7), 83);
        x.lick(0, 0);
        check.due("told(7) in the first CELL", x.told(7), 0);
        x.lead(0, 3);
        check.due("told(5) in the first column", x.told(5), 3);
        x.lead(8, 0);
        check.due("told(5) in the first row", x.told(5), 80);
        check.due("told(6) is not where she wakes", x.told(6), NONE);
        x.day(1);
        check.due("told(6) behind a day", x.told(6), x.told(5));
        check.sentence("Promise 5: 2 bytes of THE TEXT, 11 SEEN, 12 entries: the least and the greatest");
        for (int i = 0; i < 10; i++) x.see(0, 0, 0);
        for (int i = 0; i < 30; i++) x.write(0, 0, 0);
        Check.feed(x, " ".repeat(500));
        check.due("told(2)", x.told(2), 500);
        check.due("told(11)", x.told(11), 10);
        check.due("told(12)", x.told(12), 30);
        x.tear();
        check.due("told(11) torn", x.told(11), 0);
        check.due("told(12) torn", x.told(12), 0);
    }

    private static void promise6Cell() {
        check.sentence("Promise 6: of a CELL, the least and the greatest of all");
        CowLies x = Check.of("meadow 2 1;grass 0 0 0;tithe 0 0 0;grass 1 0 9;tithe 1 0 99;thing shade 1 0;thing water 1 0;likes 9 9 9 0;");
        x.sow(1, 0, 9);
        x.lick(1, 0);
        int[] least = {0, 0, 0, 0, 1};
        int[] greatest = {18, 18, 3, 99, 1 + 9 * 18 + 9 + 9 + 20};
        for (int what = 0; what <= 4; what++) {
            check.due("cell(0, 0, " + what + ")", x.cell(0, 0, what), least[what]);
            check.due("cell(1, 0, " + what + ")", x.cell(1, 0, what), greatest[what]);
        }
        check.sentence("Promise 6: 2 things (a SET: shade 0, water 1, flies 2)");
        String[] kinds = {"shade", "water", "flies"};
        for (int set = 0; set < 8; set++) {
            StringBuilder text = new StringBuilder("meadow 2 1;");
            for (int k = 2; k >= 0; k--) if ((set >> k & 1) == 1) text.append("thing ").append(kinds[k]).append(" 1 0;");
            CowLies y = Check.of(text.toString());
            check.due("things of " + text, y.cell(1, 0, 2), set);
            check.due("things beside " + text, y.cell(0, 0, 2), 0);
        }
        check.sentence("Promise 6: 0 GRASS, 1 GRASS at first");
        CowLies eaten = Check.of("meadow 1 1;grass 0 0 9;cow 0 0 8;");
        eaten.day(1);
        check.due("eaten by 8, grown by 1", eaten.cell(0, 0, 0), 2);
        check.due("at first", eaten.cell(0, 0, 1), 9);
    }

    private static void promise7Tithes() {
        check.sentence("Promise 7, Terms 2: TITHES of a PARISH, the least and the greatest");
        CowLies x = Check.of("meadow 8 5;" + entries("tithe", 20, " 99"));
        for (int law = 0; law <= 2; law++) {
            x.law(law);
            check.due("by the first CELL PARISH 0 has none, law " + law, x.tithes(0, 0, 0), 0);
            check.due("by the first CELL PARISH 1 has all, law " + law, x.tithes(1, 0, 0), 20 * 99 + 20);
            check.due("by the last CELL PARISH 1 has that alone, law " + law, x.tithes(1, 7, 4), 1);
            check.due("by the last CELL PARISH 0 has the others, law " + law, x.tithes(0, 7, 4), 20 * 99 + 19);
        }
        CowLies one = Check.of("meadow 1 1;tithe 0 0 99;");
        for (int law = 0; law <= 2; law++) {
            one.law(law);
            check.due("one CELL is PARISH 1's, law " + law, one.tithes(1, 0, 0), 99);
            check.due("PARISH 0 has none of one CELL, law " + law, one.tithes(0, 0, 0), 0);
        }
    }
}
