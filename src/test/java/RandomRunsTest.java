/** Promises 1 to 25 again: long runs of calls, always the same ones, each answer compared with that of the Model. */
public final class RandomRunsTest {
    private static final int RUNS = 1500;
    private static final int CALLS = 512;
    private static final int[] EDGES = {0, -1, 1, 2, 7, 8, 11, 12, 39, 40, 998, 999, 1000, 16, 17, 65534, 65535, 65536,
        Integer.MAX_VALUE, Integer.MIN_VALUE};
    private static final String SIGNS = "+-x<:=,0123456789+-x<:=,09 a\u0000\u0130";

    private final Due due = new Due("RandomRunsTest");
    private RisingPiles told;
    private Model model;
    private long seed;
    private int span;
    private int calls;
    private String run;
    private String waiting = "";

    public static void main(String[] args) {
        RandomRunsTest test = new RandomRunsTest();
        for (int i = 0; i < RUNS; i++) {
            test.runOf(i);
        }
        test.due.end();
    }

    private int upTo(int bound) {
        seed = seed * 6364136223846793005L + 1442695040888963407L;
        return (int) ((seed >>> 33) % bound);
    }

    private void runOf(int number) {
        told = new RisingPiles();
        model = new Model();
        seed = number * 7919L + 17;
        run = "run " + number;
        waiting = "";
        span = new int[] {3, 12, 70, 2000, 65536}[number % 5];
        int taste = number / 5 % 5;
        for (calls = 0; calls < CALLS; calls++) {
            if (!waiting.isEmpty()) {
                typeNext();
            } else {
                anyCall(taste);
            }
        }
    }

    private void typeNext() {
        char sign = waiting.charAt(0);
        waiting = waiting.substring(1);
        same("type(" + (int) sign + ")", told.type(sign), model.type(sign));
        if (waiting.isEmpty()) {
            same("perform()", told.perform(), model.perform());
            same("refusal(0)", told.refusal(0), model.refusal(0));
            same("refusal(1)", told.refusal(1), model.refusal(1));
            calls += 3;
        }
    }

    private void anyCall(int taste) {
        int kind = upTo(20);
        if (kind < 8) {
            entryCall(taste);
        } else if (kind < 12) {
            if (taste == 1) {
                roadCall();
            } else {
                pileTold();
            }
        } else if (kind < 13) {
            textCall(taste);
        } else if (kind < 14) {
            historyCall();
        } else if (kind < 15) {
            roadTold();
        } else {
            pileTold();
        }
    }

    private int key() {
        return upTo(25) == 0 ? edge() : Math.min(65535, model.count(3) + upTo(span)) - (upTo(15) == 0 ? 1 : 0);
    }

    private int lessKey(int entry) {
        int key = model.entry(entry, 0);
        int floor = model.count(3);
        return key < floor || upTo(8) == 0 ? key() : floor + upTo(key - floor + 1);
    }

    private int value() {
        return upTo(25) == 0 ? edge() : upTo(1000);
    }

    private int town() {
        return upTo(25) == 0 ? edge() : upTo(12);
    }

    private int edge() {
        return EDGES[upTo(EDGES.length)];
    }

    private int anEntry() {
        int came = model.count(1);
        int held = model.count(0);
        if (held > 0 && upTo(5) != 0) {
            return model.ranked(upTo(held));
        }
        return upTo(4) == 0 ? edge() : upTo(came + 1);
    }

    private int what(int most) {
        return upTo(20) == 0 ? edge() : upTo(most + 2) - (upTo(10) == 0 ? 1 : 0);
    }

    private void entryCall(int taste) {
        int kind = upTo(12);
        int key = key();
        int entry = anEntry();
        if (kind < (taste == 2 ? 10 : 6)) {
            int value = value();
            same("comeIn(" + key + ", " + value + ")", told.comeIn(key, value), model.comeIn(key, value));
        } else if (kind < 9) {
            same("comeOut()", told.comeOut(), model.comeOut());
        } else if (kind < 10) {
            int bound = upTo(2) == 0 ? key : Math.max(0, model.next(1)) + upTo(3);
            same("comeOutUpTo(" + bound + ")", told.comeOutUpTo(bound), model.comeOutUpTo(bound));
        } else if (kind < 11) {
            same("takeBack(" + entry + ")", told.takeBack(entry), model.takeBack(entry));
        } else {
            int lesser = lessKey(entry);
            same("less(" + entry + ", " + lesser + ")", told.less(entry, lesser), model.less(entry, lesser));
        }
    }

    private void roadCall() {
        int from = town();
        int to = town();
        if (upTo(9) == 0) {
            same("unroad(" + from + ", " + to + ")", told.unroad(from, to), model.unroad(from, to));
        } else {
            int length = upTo(25) == 0 ? edge() : upTo(Math.min(span, 1000));
            same("road(" + from + ", " + to + ", " + length + ")", told.road(from, to, length), model.road(from, to, length));
        }
    }

    private void textCall(int taste) {
        if (taste == 3) {
            same("clearText()", told.clearText(), model.clearText());
            waiting = manyOrders();
        } else if (upTo(3) == 0) {
            same("perform()", told.perform(), model.perform());
        } else {
            if (upTo(4) != 0) {
                same("clearText()", told.clearText(), model.clearText());
            }
            waiting = orders();
        }
    }

    private String manyOrders() {
        StringBuilder text = new StringBuilder();
        for (int i = 0; i < 12; i++) {
            text.append(i == 0 ? "" : ",").append('+').append(upTo(2) + Math.min(9, model.count(3))).append(",-");
        }
        return text.toString();
    }

    private String orders() {
        StringBuilder text = new StringBuilder();
        int many = 1 + upTo(5);
        for (int i = 0; i < many; i++) {
            text.append(i == 0 ? "" : ",").append(order());
        }
        int spoilt = upTo(3);
        for (int i = 0; i < spoilt && upTo(2) == 0; i++) {
            text.insert(upTo(text.length() + 1), SIGNS.charAt(upTo(SIGNS.length())));
            text.deleteCharAt(upTo(text.length()));
        }
        return text.toString();
    }

    private String order() {
        int entry = Math.max(0, anEntry()) % 1100;
        switch (upTo(6)) {
            case 0: return "-";
            case 1: return "x" + entry;
            case 2: return "<" + entry + "=" + Math.max(0, lessKey(entry));
            case 3: return "+" + (long) Math.max(0, key());
            case 4: return "+" + Math.max(0, key()) + ":" + Math.max(0, value());
            default: return upTo(2) == 0 ? "-" : "+" + (65400 + upTo(200));
        }
    }

    private void historyCall() {
        int kind = upTo(5);
        if (kind < 3) {
            same("undo()", told.undo(), model.undo());
        } else if (kind == 3) {
            same("keep()", told.keep(), model.keep());
        } else {
            same("restore()", told.restore(), model.restore());
        }
    }

    private void roadTold() {
        int from = town();
        int to = town();
        int what = what(3);
        switch (upTo(3)) {
            case 0:
                same("roadOf(" + from + ", " + to + ")", told.roadOf(from, to), model.roadOf(from, to));
                break;
            case 1:
                same("distance(" + from + ", " + to + ")", told.distance(from, to), model.distance(from, to));
                break;
            default:
                same("search(" + from + ", " + what + ")", told.search(from, what), model.search(from, what));
        }
    }

    private void pileTold() {
        int what = what(4);
        int entry = anEntry();
        int pile = upTo(3) == 0 && model.entry(entry, 2) >= 0 ? model.entry(entry, 2) : what(16);
        int rank = what(40);
        int back = what(8);
        int counted = what(9);
        switch (upTo(7)) {
            case 0:
                same("entry(" + entry + ", " + what + ")", told.entry(entry, what), model.entry(entry, what));
                break;
            case 1:
                same("pile(" + pile + ", " + what + ")", told.pile(pile, what), model.pile(pile, what));
                break;
            case 2:
                same("next(" + what + ")", told.next(what), model.next(what));
                break;
            case 3:
                same("ranked(" + rank + ")", told.ranked(rank), model.ranked(rank));
                break;
            case 4:
                same("movesLeft()", told.movesLeft(), model.movesLeft());
                break;
            case 5:
                same("out(" + back + ", " + what + ")", told.out(back, what), model.out(back, what));
                break;
            default:
                same("count(" + counted + ")", told.count(counted), model.count(counted));
        }
    }

    private void same(String call, int got, int want) {
        due.is(run + ", call " + calls + ": " + call, got, want);
    }
}
