/** Promises 3 and 4, Terms 1 (FAULTS): each fault at its byte; the edges stand in EdgesMeadowTest. */
public final class FaultTest {
    private static final Check check = new Check();

    public static void main(String[] args) {
        cannotStandThere();
        numbers();
        again();
        tooMany();
        cellsAgain();
        mostThatIsTaken();
        check.end();
    }

    /** The fault is due at the place of the first '#', which is left out of the text. */
    private static void fault(int number, String marked) {
        String text = marked.replace("#", "");
        CowLies x = new CowLies();
        check.due("meadow() of " + text, Check.meadow(x, text), -10 - number);
        check.due("fault() of " + text, x.fault(), marked.indexOf('#'));
        check.due("no text behind " + text, x.told(2), 0);
    }

    private static CowLies good(int cells, String text) {
        CowLies x = new CowLies();
        check.due("meadow() of " + text, Check.meadow(x, text), cells);
        check.due("fault() of " + text, x.fault(), Check.NONE);
        return x;
    }

    private static void cannotStandThere() {
        fault(1, "#x");
        fault(1, "#;");
        fault(1, "#1");
        fault(1, "  #cow 0 0 1;");
        fault(1, "#meado 1 1;");
        fault(1, "#meadows 1 1;");
        fault(1, "#meadowz 1 1;");
        fault(1, "#xeadow 1 1;");
        fault(1, "#Meadow 1 1;");
        fault(1, "#meadoW 1 1;");
        fault(1, "meadow#W 1 1;");
        fault(1, "meadow#");
        fault(1, "meadow #");
        fault(1, "meadow#;");
        fault(1, "meadow #-1 1;");
        fault(1, "meadow #x 1;");
        fault(1, "meadow #meadow 1 1;");
        fault(1, "meadow 1#;");
        fault(1, "meadow 1#x 1;");
        fault(1, "meadow 1 1#");
        fault(1, "meadow 1 1  #");
        fault(1, "meadow 1 1 #1;");
        fault(1, "meadow 1 1 #grass 0 0 1;");
        fault(1, "meadow 1 1;#;");
        fault(1, "meadow 1 1;#1;");
        fault(1, "meadow 1 1;#1234;");
        fault(1, "meadow 1 1;#\n");
        fault(1, "meadow#\t1 1;");
        fault(1, "meadow 1 1;#\0");
        fault(1, "meadow 1 1;#\u00e9");
        fault(1, "meadow 1 1;#bull 0 0;");
        fault(1, "meadow 1 1;#gras 0 0 1;");
        fault(1, "meadow 1 1;#shade 0 0;");
        fault(1, "meadow 1 1;#cowcow 0 0 1;");
        fault(1, "meadow 1 1;grass#");
        fault(1, "meadow 1 1;grass 0#;");
        fault(1, "meadow 1 1;grass 0 0#;");
        fault(1, "meadow 1 1;grass 0 0 1 #1;");
        fault(1, "meadow 1 1;grass 0 0 1#");
        fault(1, "meadow 1 1;grass 0 0 1 #cow 0 0 1;");
        fault(1, "meadow 1 1;thing #0 0;");
        fault(1, "meadow 1 1;thing #;");
        fault(1, "meadow 1 1;thing #thing 0 0;");
        fault(1, "meadow 1 1;thing #cow 0 0;");
        fault(1, "meadow 1 1;thing #meadow 0 0;");
        fault(1, "meadow 1 1;thing #shadewater 0 0;");
        fault(1, "meadow 1 1;thing shade #water 0 0;");
        fault(1, "meadow 1 1;thing shade 0 0 #0;");
        fault(1, "meadow 1 1;#thingshade 0 0;");
        fault(1, "meadow 1 1;tithe 0 0#;");
        fault(1, "meadow 1 1;tithe 0 0 1 #1;");
        fault(1, "meadow 1 1;cow 0 0#;");
        fault(1, "meadow 1 1;cow 0 0 1 #1;");
        fault(1, "meadow 1 1;likes 1 1 1#;");
        fault(1, "meadow 1 1;likes 1 1 1 1 #1;");
        fault(1, "meadow 1 1;likes 1 #x 1 1;");
        fault(3, "meadow 1 1;cow 0 0 1;#cowZ");
    }

    private static void numbers() {
        fault(2, "meadow #0 1;");
        fault(2, "meadow #10 1;");
        fault(2, "meadow 1 #0;");
        fault(2, "meadow 1 #10;");
        fault(2, "meadow 9 #5;");
        fault(2, "meadow 5 #9;");
        fault(2, "meadow 7 #6;");
        fault(2, "meadow #11;");
        fault(2, "meadow#0001 1;");
        fault(2, "meadow #1000 1;");
        fault(2, "meadow #99999999999999999999 1;");
        fault(2, "meadow #4294967297 1;");
        fault(2, "meadow 2 2;grass #2 0 1;");
        fault(2, "meadow 2 2;grass 0 #2 1;");
        fault(2, "meadow 2 2;grass 0 0 #10;");
        fault(2, "meadow 2 2;grass 0 0 #0001;");
        fault(2, "meadow 2 2;grass 0 0 #010;");
        fault(2, "meadow 2 2;grass 0 0 #999;");
        fault(2, "meadow 3 2;grass 1 #2 1;");
        fault(2, "meadow 2 3;grass #2 1 1;");
        fault(2, "meadow 2 2;thing shade #2 0;");
        fault(2, "meadow 2 2;thing shade 0 #2;");
        fault(2, "meadow 2 2;tithe #2 0 1;");
        fault(2, "meadow 2 2;tithe 0 #2 1;");
        fault(2, "meadow 2 2;tithe 0 0 #100;");
        fault(2, "meadow 2 2;tithe 0 0 #0099;");
        fault(2, "meadow 2 2;cow #2 0 1;");
        fault(2, "meadow 2 2;cow 0 #2 1;");
        fault(2, "meadow 2 2;cow 0 0 #0;");
        fault(2, "meadow 2 2;cow 0 0 #9;");
        fault(2, "meadow 2 2;likes #10 0 0 0;");
        fault(2, "meadow 2 2;likes 0 #10 0 0;");
        fault(2, "meadow 2 2;likes 0 0 #10 0;");
        fault(2, "meadow 2 2;likes 0 0 0 #10;");
        // of several the first place
        fault(2, "meadow #0 0;bull");
        fault(2, "meadow 2 #0 x");
        fault(2, "meadow 2 2;grass #9 9 99;");
        fault(2, "meadow 2 2;grass 0 #9 99;");
        fault(2, "meadow 2 2;tithe #9 9 999;");
        fault(2, "meadow 2 2;cow #9 9 99;");
        fault(2, "meadow 2 2;cow 0 #9 99;");
        fault(2, "meadow 2 2;cow 0 0 #9;;");
        fault(2, "meadow 2 2;thing shade #2 2;;");
        fault(2, "meadow 2 2;likes #10 11 12 13;");
        fault(2, "meadow 2 2;likes 0 #11 12 13;");
        fault(2, "meadow 2 2;likes 0 0 #12 13;");
        fault(2, "meadow 2 2;likes 0 0 0 #13 0;");
        good(1, "meadow 1 1;likes 000 009 09 0;");
        good(9, "meadow 9 1;grass 8 0 0;tithe 8 0 0;cow 8 0 1;");
        good(9, "meadow 1 9;thing shade 0 8;cow 0 8 8;");
    }

    private static void again() {
        fault(3, "meadow 1 1;#meadow 1 1;");
        fault(3, "meadow 1 1; #meadow");
        fault(3, "meadow 1 1;cow 0 0 1;#cow 0 0 1;");
        fault(3, "meadow 1 1;cow 0 0 1;#cow");
        fault(3, "meadow 1 1;likes 1 1 1 1;#likes 1 1 1 1;");
        fault(3, "meadow 1 1;likes 1 1 1 1;cow 0 0 1;#likes x");
        // a faulty cow ahead of another one is the first fault
        fault(2, "meadow 1 1;cow #1 0 1;cow 0 0 1;");
    }

    private static String entries(String word, int many, String value) {
        StringBuilder text = new StringBuilder();
        for (int i = 0; i < many; i++) text.append(word).append(i % 8).append(' ').append(i / 8).append(value).append(';');
        return text.toString();
    }

    private static void tooMany() {
        String meadow = "meadow 8 5;";
        fault(3, meadow + entries("grass", 20, " 2") + "#grass 7 4 1;");
        fault(3, meadow + entries("grass", 20, " 2") + "#grass 0 0 1;");
        fault(3, meadow + entries("tithe", 20, " 2") + "#tithe x");
        fault(3, meadow + entries("thing water", 15, "") + "#thing bull");
        fault(3, meadow + entries("thing water", 8, "") + entries("thing flies", 7, "") + "#thing shade 0 0;");
        good(40, meadow + entries("grass", 20, " 2") + entries("tithe", 20, " 3"));
        CowLies x = good(40, meadow + entries("thing water", 8, "") + entries("thing flies", 7, ""));
        check.due("the 15th thing", x.cell(6, 0, 2), 6);
        fault(1, meadow + entries("grass", 20, " 2") + "#grasses");
    }

    private static void cellsAgain() {
        fault(4, "meadow 2 2;grass 1 0 1;grass 1 #0 2;");
        fault(4, "meadow 2 2;grass 1 0 1;grass 0 0 1;grass 1 #0;");
        fault(4, "meadow 2 2;tithe 1 1 1;tithe 1 #1 2;");
        fault(4, "meadow 2 2;thing shade 0 1;thing water 0 1;thing shade 0 #1;");
        fault(4, "meadow 2 2;thing flies 0 1;thing flies 00 #001;");
        fault(2, "meadow 2 2;grass 1 0 1;grass 1 #0000 1;");
        good(4, "meadow 2 2;grass 1 0 1;tithe 1 0 1;thing shade 1 0;thing water 1 0;thing flies 1 0;cow 1 0 1;");
        // what one text told is not told again by the next one
        String text = "meadow 2 2;grass 1 0 1;tithe 1 0 1;thing shade 1 0;cow 1 0 1;likes 1 1 1 1;";
        CowLies x = good(4, text);
        check.due("the same text again", Check.meadow(x, text), 4);
    }

    private static void mostThatIsTaken() {
        good(40, "meadow 8 5;");
        good(40, "meadow 5 8;");
        good(36, "meadow 9 4;");
        good(36, "meadow 4 9;");
        good(36, "meadow 6 6;");
        good(1, "meadow1 1;");
        good(1, "meadow 1 1 ; ");
        good(1, "meadow 001 001;cow000 000 008;");
        good(0, "");
        good(0, " ");
    }
}
