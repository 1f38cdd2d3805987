/** Promises 9 to 12: a text that is typed, its orders, its faults, and the latest refusal. */
public final class TextsTest {
    private static final Due DUE = new Due("TextsTest");

    public static void main(String[] args) {
        promise9Type();
        promise10ClearText();
        promise11Orders();
        promise11Faults();
        promise11FullText();
        promise11AllOrNone();
        promise11NothingDoneIsDone();
        promise12Refusal();
        promise12EachError();
        DUE.end();
    }

    private static void write(RisingPiles x, String text) {
        x.clearText();
        for (int i = 0; i < text.length(); i++) {
            x.type(text.charAt(i));
        }
    }

    private static int performed(RisingPiles x, String text) {
        write(x, text);
        return x.perform();
    }

    private static void promise9Type() {
        RisingPiles x = new RisingPiles();
        for (int i = 1; i <= 60; i++) {
            DUE.is("type number " + i, x.type((char) (i * 1100)), i);
        }
        DUE.is("type number 61", x.type('+'), RisingPiles.FULL);
        DUE.is("60 characters", x.count(9), 60);
        DUE.is("type() is no act", x.count(8), 0);
        DUE.is("undo() does not touch the text", x.undo(), RisingPiles.NONE);
    }

    private static void promise10ClearText() {
        RisingPiles x = new RisingPiles();
        DUE.is("clearText() of the empty one", x.clearText(), 0);
        x.type('+');
        x.type((char) 0);
        DUE.is("clearText()", x.clearText(), 2);
        DUE.is("clearText() again", x.clearText(), 0);
        DUE.is("type() is the first one again", x.type('-'), 1);
        DUE.is("perform() reads the new text", x.perform(), 1);
        DUE.is("clearText() is no act", x.count(8), 1);
    }

    private static void promise11Orders() {
        RisingPiles x = new RisingPiles();
        DUE.is("perform()", performed(x, "+65535:999,+10,+20:3,+30,-,x3,<2=12"), 7);
        DUE.is("recorded once", x.count(8), 1);
        DUE.is("value", x.entry(0, 1), 999);
        DUE.is("key", x.entry(0, 0), 65535);
        DUE.is("the least one came out", x.out(0, 0), 1);
        DUE.is("its value is 0", x.out(0, 2), 0);
        DUE.is("one was taken back", x.entry(3, 0), RisingPiles.UNKNOWN);
        DUE.is("one was made less", x.entry(2, 0), 12);
        DUE.is("the text stays", x.count(9), 35);
        DUE.is("undo()", x.undo(), 0);
        DUE.is("nothing came in", x.count(1), 0);
        DUE.is("the text stays", x.count(9), 35);
        DUE.is("perform() again", x.perform(), 7);
    }

    private static void promise11Faults() {
        String[] endTooEarly = {"", "+", "+1:", "+1:2,", "x", "x5,", "<", "<1", "<1=", "<1=2,", "-,", "+1,"};
        for (String text : endTooEarly) {
            fault(text, text.length());
        }
        String[] badAtTheEnd = {",", "+,", "+:", "-1", "--", "-+", "x01", "x-", "x=", "+00", "+01", "+1:00", "+1:-", "+1:2:",
            "+655350", "+65536", "+65540", "+70000", "+99999", "+1:1000", "x1000", "<1000", "<00", "<0=65536",
            "<0:", "<=", "<0=0:", "<0==", "x0=", "a", "X", " ", "- ", "+1 ", "+ ", "-,,", "-,1", "+1x", "+1-", "<0=1<",
            "\u0000", "-\u0000", "+\u0661", "\u012b", "+1\uffff"};
        for (String text : badAtTheEnd) {
            fault(text, text.length() - 1);
        }
        fault("+65536,a", 5);
        fault("-,-;-,a", 3);
        fault("x12345", 4);
        refused("x999");
        refused("<999=65535");
        sound("+65535:999");
        sound("+65499");
        sound("+9999:0");
        sound("+0:10");
    }

    private static void fault(String text, int place) {
        RisingPiles x = new RisingPiles();
        DUE.is("perform() of \"" + text + "\"", performed(x, text), -100 - place);
        DUE.is("nothing is done by \"" + text + "\"", x.count(1) + x.count(8), 0);
        DUE.is("a fault is no refusal", x.refusal(0), RisingPiles.NONE);
    }

    private static void refused(String text) {
        RisingPiles x = new RisingPiles();
        DUE.is("perform() of \"" + text + "\"", performed(x, text), RisingPiles.NOT_POSSIBLE);
        DUE.is("refused is \"" + text + "\"", x.refusal(1), RisingPiles.UNKNOWN);
    }

    private static void sound(String text) {
        RisingPiles x = new RisingPiles();
        DUE.is("perform() of \"" + text + "\"", performed(x, text), 1);
        DUE.is("done by \"" + text + "\"", x.count(1), 1);
    }

    private static void promise11FullText() {
        RisingPiles x = new RisingPiles();
        String thirty = "-,-,-,-,-,-,-,-,-,-,-,-,-,-,-,-,-,-,-,-,-,-,-,-,-,-,-,-,-,-";
        DUE.is("30 orders in 59 characters", performed(x, thirty), 30);
        x.type(',');
        DUE.is("a comma as the 60th one", x.perform(), -160);
        DUE.is("30 orders in 60 characters", performed(x, thirty.substring(0, 58) + "+1"), 30);
        DUE.is("one came in", x.count(0), 1);
        DUE.is("the 60th one is not allowed", performed(x, thirty + "-"), -159);
    }

    private static void promise11AllOrNone() {
        RisingPiles x = new RisingPiles();
        x.comeIn(8, 1);
        x.comeIn(9, 2);
        DUE.is("the third one is refused", performed(x, "-,+9:5,+7,-"), RisingPiles.NOT_POSSIBLE);
        DUE.is("refusal(0)", x.refusal(0), 2);
        DUE.is("refusal(1)", x.refusal(1), RisingPiles.NOT_POSSIBLE);
        DUE.is("none came out", x.count(2), 0);
        DUE.is("none came in", x.count(1), 2);
        DUE.is("the floor", x.count(3), 0);
        DUE.is("no move", x.count(4), 0);
        DUE.is("out(0, 0)", x.out(0, 0), RisingPiles.NONE);
        DUE.is("not recorded", x.count(8), 2);
        DUE.is("entry(0, 2)", x.entry(0, 2), 4);
    }

    private static void promise11NothingDoneIsDone() {
        RisingPiles x = new RisingPiles();
        DUE.is("- of none", performed(x, "-"), 1);
        DUE.is("recorded all the same", x.count(8), 1);
        x.comeIn(5, 0);
        DUE.is("< to its key", performed(x, "<0=5,-,-,-"), 4);
        DUE.is("one came out", x.count(2), 1);
        DUE.is("refusal(1)", x.refusal(1), RisingPiles.NONE);
    }

    private static void promise12Refusal() {
        RisingPiles x = new RisingPiles();
        DUE.is("refusal(-1)", x.refusal(-1), RisingPiles.BAD_VALUE);
        DUE.is("refusal(2)", x.refusal(2), RisingPiles.BAD_VALUE);
        DUE.is("refusal(0)", x.refusal(0), RisingPiles.NONE);
        DUE.is("refusal(1)", x.refusal(1), RisingPiles.NONE);
        DUE.is("perform()", performed(x, "+1,x7"), RisingPiles.NOT_POSSIBLE);
        DUE.is("refusal(0)", x.refusal(0), 1);
        DUE.is("refusal(1)", x.refusal(1), RisingPiles.UNKNOWN);
        DUE.is("perform()", performed(x, "+1,-"), 2);
        DUE.is("it stays the latest one", x.refusal(0), 1);
        DUE.is("undo()", x.undo(), 0);
        DUE.is("undo() does not touch it", x.refusal(1), RisingPiles.UNKNOWN);
        DUE.is("a fault", performed(x, "+1,"), -103);
        DUE.is("a fault is no refusal", x.refusal(0), 1);
        DUE.is("perform()", performed(x, "<0=1"), RisingPiles.NOT_POSSIBLE);
        DUE.is("refusal(0)", x.refusal(0), 0);
        x.comeOut();
        DUE.is("refusal(2)", x.refusal(2), RisingPiles.BAD_VALUE);
    }

    private static void promise12EachError() {
        RisingPiles x = new RisingPiles();
        for (int i = 0; i < 39; i++) {
            x.comeIn(50, 0);
        }
        DUE.is("full", performed(x, "+50,+50"), RisingPiles.NOT_POSSIBLE);
        DUE.is("refusal(0)", x.refusal(0), 1);
        DUE.is("refusal(1)", x.refusal(1), RisingPiles.FULL);
        DUE.is("39 are in", x.count(0), 39);
        DUE.is("above its key", performed(x, "<3=51"), RisingPiles.NOT_POSSIBLE);
        DUE.is("refusal(1)", x.refusal(1), RisingPiles.NOT_POSSIBLE);
        DUE.is("below the floor", performed(x, "-,<3=49"), RisingPiles.NOT_POSSIBLE);
        DUE.is("refusal(0)", x.refusal(0), 1);
        DUE.is("unknown", performed(x, "x0,x0"), RisingPiles.NOT_POSSIBLE);
        DUE.is("refusal(1)", x.refusal(1), RisingPiles.UNKNOWN);
    }
}
