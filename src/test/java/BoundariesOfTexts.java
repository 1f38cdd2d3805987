import java.util.Arrays;
import java.util.Collections;
import java.util.List;
import java.util.regex.Pattern;

/** The sentences on texts and orders, in the Terms and in promises 9 to 12, that name boundary cases. */
final class BoundariesOfTexts extends Boundaries {
    private static final String THIRTY = "-,-,-,-,-,-,-,-,-,-,-,-,-,-,-,-,-,-,-,-,-,-,-,-,-,-,-,-,-,-";
    private static final String KEY = Model.KEY;
    private static final String SMALL = Model.SMALL;

    BoundariesOfTexts() {
        under("Terms");
        text();
        orders();
        kindsOfOrders();
        numbers();
        faults();
        typeAnswers();
        clearTextAnswers();
        performDoes();
        performAnswers();
        refusalAnswers();
    }

    /** The answer of perform() to a text on a new object. */
    private static int first(Trial t, String text) {
        return performed(t.fresh(), text);
    }

    private static Fault taking(String order) {
        return Fault.altered(m -> m.orders = Model.listOf(order));
    }

    private static Fault reading(String orders) {
        return Fault.altered(m -> m.orders = Pattern.compile(orders));
    }

    private void text() {
        holds("There is a text of at most 60 characters, empty at first", t -> {
            Face x = t.fresh();
            t.due(x.count(9), 0);
            t.due(x.perform(), -100);
            t.due(x.clearText(), 0);
            for (int i = 1; i <= 60; i++) {
                t.due(x.type('7'), i);
            }
            t.due(x.type('7'), FULL);
            t.due(x.count(9), 60);
        }).not(
            Fault.altered(m -> m.mostInText = 59),
            Fault.altered(m -> m.mostInText = 61),
            Fault.altered(m -> m.text = "-"));
    }

    private void orders() {
        holds("A text of orders is one or more orders with \",\" between two", t -> {
            t.due(first(t, ""), -100);
            t.due(first(t, "-"), 1);
            t.due(first(t, "-,-"), 2);
            t.due(first(t, "+1,-,+2:3"), 3);
            t.due(first(t, THIRTY), 30);
            t.due(first(t, ","), -100);
            t.due(first(t, ",-"), -100);
            t.due(first(t, "-,"), -102);
            t.due(first(t, "-,,-"), -102);
            t.due(first(t, "--"), -101);
            t.due(first(t, "+1-"), -102);
            t.due(first(t, "+1+2"), -102);
            t.due(first(t, "- ,-"), -101);
            t.due(first(t, "-, -"), -102);
            t.due(first(t, "-;-"), -101);
        }).not(
            Fault.when("perform", (m, a) -> m.text.isEmpty(), 0),
            Fault.when("perform", (m, a) -> m.text.equals(","), 0),
            reading(Model.ORDER + "(?:," + Model.ORDER + ")?"),
            reading(Model.ORDER + "(?:," + Model.ORDER + ")*,?"),
            reading(Model.ORDER + "(?:,?" + Model.ORDER + ")*"),
            reading(Model.ORDER + "(?:[,;]" + Model.ORDER + ")*"),
            reading(Model.ORDER + "(?:, ?" + Model.ORDER + ")*"),
            Fault.answered("perform", 30, 29));
    }

    private void kindsOfOrders() {
        holds("\"+\" and a key (it comes in with the value 0), or \"+\", a key, \":\" and a value", t -> {
            Face x = t.fresh();
            t.due(performed(x, "+7,+8:9"), 2);
            t.due(x.entry(0, 0), 7);
            t.due(x.entry(0, 1), 0);
            t.due(x.entry(1, 0), 8);
            t.due(x.entry(1, 1), 9);
            t.due(performed(x, "+9:1,+10"), 2);
            t.due(x.entry(3, 1), 0);
            t.due(first(t, "+"), -101);
            t.due(first(t, "+:5"), -101);
            t.due(first(t, "+5:"), -103);
            t.due(first(t, "+5:1:2"), -104);
            t.due(first(t, "+5=1"), -102);
            t.due(first(t, "+-5"), -101);
        }).not(
            taking("(?:\\+" + KEY + "?(?::" + SMALL + ")?|-)"),
            taking("(?:\\+" + KEY + "(?::" + SMALL + ")*|-)"),
            taking("(?:\\+" + KEY + "(?:[:=]" + SMALL + ")?|-)"),
            taking("(?:\\+" + KEY + "|-)"),
            Fault.altered(m -> m.valueOfOrders = 1));
        holds("\"-\" (one comes out)", t -> {
            Face x = t.fresh();
            comeIn(x, 6, 5);
            t.due(performed(x, "-"), 1);
            t.due(x.count(2), 1);
            t.due(x.out(0, 0), 1);
            t.due(performed(x, "-,-"), 2);
            t.due(x.count(2), 2);
            t.due(first(t, "-1"), -101);
        }).not(
            taking("(?:-\\d?)"),
            Fault.bent("perform", (m, a) -> m.text.equals("-") ? m.comeOut() + m.comeOut() : m.perform()));
        holds("\"x\" and the number of an entry (it is taken back)", t -> {
            Face x = t.fresh();
            comeIn(x, 6, 5);
            t.due(performed(x, "x0"), 1);
            t.due(x.entry(0, 0), UNKNOWN);
            t.due(x.count(7), 1);
            t.due(x.count(2), 0);
            t.due(performed(x, "x0"), NOT_POSSIBLE);
            t.due(first(t, "x"), -101);
            t.due(first(t, "X0"), -100);
            t.due(first(t, "x-"), -101);
            t.due(first(t, "x0:0"), -102);
        }).not(
            taking("(?:x" + SMALL + "?)"),
            taking("(?:[xX]" + SMALL + ")"),
            taking("(?:x" + SMALL + "(?::0)?)"));
        holds("\"<\", the number of an entry, \"=\" and a key (it is made less)", t -> {
            Face x = t.fresh();
            comeIn(x, 65535, 5);
            t.due(performed(x, "<0=4"), 1);
            t.due(x.entry(0, 0), 4);
            t.due(x.entry(0, 4), 1);
            t.due(performed(x, "<0=4"), 1);
            t.due(performed(x, "<0=5"), NOT_POSSIBLE);
            t.due(first(t, "<"), -101);
            t.due(first(t, "<0"), -102);
            t.due(first(t, "<0="), -103);
            t.due(first(t, "<=0"), -101);
            t.due(first(t, "<0:0"), -102);
            t.due(first(t, "<0=-"), -103);
            t.due(first(t, "<0=0=0"), -104);
        }).not(
            taking("(?:<" + SMALL + "=" + KEY + "?)"),
            taking("(?:<" + SMALL + "?=" + KEY + ")"),
            taking("(?:<" + SMALL + "[:=]" + KEY + ")"),
            taking("(?:<" + SMALL + "(?:=" + KEY + ")+)"));
    }

    private void numbers() {
        holds("Keys are 0 to 65535", t -> {
            for (String key : new String[] {"0", "1", "9", "10", "999", "1000", "9999", "10000", "65529", "65530", "65535"}) {
                Face x = t.fresh();
                t.due(performed(x, "+" + key), 1);
                t.due(x.entry(0, 0), Integer.parseInt(key));
                Face y = t.fresh();
                comeIn(y, 65535);
                t.due(performed(y, "<0=" + key), 1);
                t.due(y.entry(0, 0), Integer.parseInt(key));
            }
            t.due(first(t, "+65536"), -105);
            t.due(first(t, "+65536:1"), -105);
            t.due(first(t, "<0=65536"), -107);
            t.due(first(t, "+-1"), -101);
        }).not(
            taking(Model.orderOf(KEY.replace("(?:0|", "(?:"), SMALL)),
            taking(Model.orderOf("(?:0|[1-9]\\d{0,4})", SMALL)),
            taking(Model.orderOf("(?:0|[1-9]\\d{0,3})", SMALL)),
            taking(Model.orderOf(KEY.replace("6553[0-5]", "6553[0-4]"), SMALL)),
            taking(Model.orderOf(KEY.replace("6553[0-5]", "6553[0-6]"), SMALL)),
            taking(Model.orderOf(SMALL, SMALL)));
        holds("values and numbers of entries 0 to 999", t -> {
            for (String value : new String[] {"0", "1", "9", "10", "99", "100", "990", "999"}) {
                Face x = t.fresh();
                t.due(performed(x, "+5:" + value), 1);
                t.due(x.entry(0, 1), Integer.parseInt(value));
                t.due(first(t, "x" + value), NOT_POSSIBLE);
                t.due(first(t, "<" + value + "=0"), NOT_POSSIBLE);
            }
            Face x = t.fresh();
            throughOut(x, 99);
            comeIn(x, 9, 9, 9, 9, 9, 9, 9, 9, 9, 9);
            t.due(performed(x, "<999=8,x999"), 2);
            t.due(x.count(7), 1);
            t.due(x.entry(999, 0), UNKNOWN);
            t.due(first(t, "+5:1000"), -106);
            t.due(first(t, "x1000"), -104);
            t.due(first(t, "<1000=1"), -104);
        }).not(
            taking(Model.orderOf(KEY, "(?:0|[1-9]\\d{0,3})")),
            taking(Model.orderOf(KEY, "(?:0|[1-9]\\d?)")),
            taking(Model.orderOf(KEY, "(?:0|[1-8]\\d{0,2}|9[0-8]?\\d?|99[0-8]?)")),
            taking(Model.orderOf(KEY, "[1-9]\\d{0,2}")));
        holds("without a zero in front unless it is the single digit 0", t -> {
            t.due(first(t, "+0"), 1);
            t.due(first(t, "+00"), -102);
            t.due(first(t, "+01"), -102);
            t.due(first(t, "+0:0"), 1);
            t.due(first(t, "+0:00"), -104);
            t.due(first(t, "+0:09"), -104);
            t.due(first(t, "+10,+100:100"), 2);
            t.due(first(t, "x0"), NOT_POSSIBLE);
            t.due(first(t, "x00"), -102);
            t.due(first(t, "x01"), -102);
            t.due(first(t, "<00=0"), -102);
            t.due(first(t, "<0=00"), -104);
            t.due(first(t, "<0=05"), -104);
            t.due(first(t, "+0,+0"), 2);
        }).not(
            taking(Model.orderOf("\\d{1,5}", SMALL)),
            taking(Model.orderOf(KEY, "\\d{1,3}")),
            taking(Model.orderOf("0{0,2}" + KEY, SMALL)),
            taking(Model.orderOf("[1-9]\\d{0,3}", SMALL)));
        holds("a digit is not allowed by which a number would be greater", t -> {
            t.due(first(t, "+6553"), 1);
            t.due(first(t, "+65536"), -105);
            t.due(first(t, "+65540"), -105);
            t.due(first(t, "+655350"), -106);
            t.due(first(t, "+65600"), -105);
            t.due(first(t, "+66000"), -105);
            t.due(first(t, "+99999"), -105);
            t.due(first(t, "+6554"), 1);
            t.due(first(t, "+9999"), 1);
            t.due(first(t, "+10000"), 1);
            t.due(first(t, "+4294967296"), -106);
            t.due(first(t, "+5:1000"), -106);
            t.due(first(t, "+5:9999"), -106);
            t.due(first(t, "x9990"), -104);
            t.due(first(t, "<9999=1"), -104);
            t.due(first(t, "<1=655360"), -107);
            t.due(first(t, "+1:999,+65536,-"), -112);
            t.due(first(t, "+111111111111111111111111111111111111111111111111111111111"), -106);
        }).not(
            Fault.bent("perform", (m, a) -> m.perform() <= -105 ? m.perform() + 1 : m.perform()),
            taking(Model.orderOf("(?:0|[1-9]\\d{0,4})", SMALL)),
            taking(Model.orderOf("(?:" + KEY + "|4294967296)", SMALL)),
            taking(Model.orderOf(KEY, "(?:0|[1-9]\\d{0,3})")));
    }

    private void faults() {
        holds("The fault of the text is the index, from 0, of the first character that is not allowed at its place", t -> {
            for (String text : new String[] {"a", " ", "1", ":", "=", ",", "\u0000", "\u00ff", "\uffff", "\u012b"}) {
                t.due(first(t, text), -100);
                t.due(first(t, text + "-"), -100);
                t.due(first(t, "-" + (text.equals(",") ? "a" : text)), -101);
            }
            t.due(first(t, "+1,+2,y"), -106);
            t.due(first(t, "-,b,c"), -102);
            t.due(first(t, "+\u0661"), -101);
            t.due(first(t, "+1\uff11"), -102);
            t.due(first(t, THIRTY + "-"), -159);
            t.due(first(t, THIRTY.substring(0, 58) + "+x"), -159);
        }).not(
            Fault.bent("perform", (m, a) -> m.perform() <= -100 ? m.perform() - 1 : m.perform()),
            Fault.bent("perform", (m, a) -> m.perform() <= -100 ? -100 - m.text.length() : m.perform()),
            Fault.bent("type", (m, a) -> m.type((char) (a[0] & 255))),
            taking(Model.ORDER.replace("\\d", "[\\d\u0661]").replace("[1-9]", "[1-9\u0661]")));
        holds("or the length of the text if it ends too early (the empty text does)", t -> {
            t.due(first(t, ""), -100);
            for (String text : new String[] {"+", "+1:", "x", "<", "<1", "<1=", "-,", "+1,", "+1:2,", "x1,", "<1=2,", "-,+", "-,x"}) {
                t.due(first(t, text), -100 - text.length());
            }
            t.due(first(t, THIRTY + ","), -160);
            t.due(first(t, THIRTY.substring(0, 58) + "<1"), -160);
            t.due(first(t, THIRTY.substring(0, 58) + "+"), -159);
            Face x = t.fresh();
            t.due(performed(x, "+1:"), -103);
            t.due(x.type('4'), 4);
            t.due(x.perform(), 1);
            t.due(x.clearText(), 4);
            t.due(x.perform(), -100);
        }).not(
            Fault.bent("perform", (m, a) -> m.perform() <= -100 ? Math.min(m.perform() + 1, -100) : m.perform()),
            Fault.bent("perform", (m, a) -> Math.max(m.perform(), -159)),
            Fault.when("perform", (m, a) -> m.text.isEmpty(), 0),
            Fault.when("perform", (m, a) -> m.text.isEmpty(), NONE));
    }

    private void typeAnswers() {
        under("Promise 9");
        holds("Types a character behind the text", t -> {
            Face x = t.fresh();
            t.due(x.type('+'), 1);
            t.due(x.perform(), -101);
            t.due(x.type('1'), 2);
            t.due(x.type('2'), 3);
            t.due(x.perform(), 1);
            t.due(x.entry(0, 0), 12);
        }).not(Fault.bent("type", (m, a) -> {
            String text = m.text;
            int length = m.type((char) a[0]);
            m.text = text.length() < 2 ? m.text : (char) a[0] + text;
            return length;
        }));
        holds("`character`: any character", t -> {
            Face x = t.fresh();
            int length = 0;
            for (int sign : new int[] {0, 1, 10, 32, 127, 128, 255, 256, 299, 301, 65279, 55296, 57343, 65534, 65535}) {
                length++;
                t.due(x.type((char) sign), length);
            }
            for (int sign : new int[] {'+' + 256, '-' + 256, '-' + 65280, '-' + 128, 0, 65535}) {
                Face y = t.fresh();
                t.due(y.type((char) sign), 1);
                t.due(y.perform(), -100);
            }
        }).not(
            Fault.when("type", (m, a) -> a[0] == 0, BAD_VALUE),
            Fault.when("type", (m, a) -> a[0] > 255, BAD_VALUE),
            Fault.when("type", (m, a) -> a[0] >= 55296 && a[0] <= 57343, BAD_VALUE),
            Fault.when("type", (m, a) -> a[0] == 65535, BAD_VALUE),
            Fault.bent("type", (m, a) -> m.type((char) (a[0] & 255))),
            Fault.bent("type", (m, a) -> m.type((char) (a[0] & 127))));
        holds("Returns the length of the text then; FULL if it has 60 characters", t -> {
            Face x = t.fresh();
            for (int i = 1; i <= 60; i++) {
                t.due(x.type(i == 1 ? '-' : i % 2 == 0 ? ',' : '-'), i);
            }
            t.due(x.type('-'), FULL);
            t.due(x.type('-'), FULL);
            t.due(x.perform(), -160);
            t.due(x.clearText(), 60);
            t.due(x.type('-'), 1);
            t.due(x.perform(), 1);
        }).not(
            Fault.altered(m -> m.mostInText = 59),
            Fault.altered(m -> m.mostInText = 61),
            Fault.answered("type", FULL, 60),
            Fault.told("type", -1, 0, n -> n - 1));
    }

    private void clearTextAnswers() {
        under("Promise 10");
        holds("Empties the text", t -> {
            Face x = t.fresh();
            write(x, "+5");
            t.due(x.clearText(), 2);
            t.due(x.count(9), 0);
            t.due(x.perform(), -100);
            t.due(x.clearText(), 0);
            t.due(x.type('-'), 1);
            t.due(x.perform(), 1);
            t.due(x.count(0), 0);
        }).not(Fault.bent("clearText", (m, a) -> m.text.length()), Fault.bent("clearText", (m, a) -> {
            int length = m.text.length();
            m.text = m.text.isEmpty() ? "" : m.text.substring(1);
            return length;
        }));
        holds("Returns the length that it had", t -> {
            Face x = t.fresh();
            t.due(x.clearText(), 0);
            x.type('a');
            t.due(x.clearText(), 1);
            write(x, THIRTY + "..");
            t.due(x.clearText(), 60);
            t.due(x.clearText(), 0);
            t.due(x.undo(), NONE);
        }).not(
            Fault.answered("clearText", 0, NONE),
            Fault.answered("clearText", 60, 0),
            Fault.told("clearText", -1, 0, n -> 0));
    }

    private void performDoes() {
        under("Promise 11");
        holds("Performs the orders of the text, which stays, one after the other", t -> {
            Face x = t.fresh();
            t.due(performed(x, "+5,-,+6,+7,x1,<2=6"), 6);
            t.due(x.out(0, 0), 0);
            t.due(x.entry(2, 0), 6);
            t.due(x.count(9), 18);
            t.due(performed(x, "+9"), 1);
            t.due(x.perform(), 1);
            t.due(x.count(1), 5);
            t.due(x.clearText(), 2);
        }).not(
            Fault.bent("perform", (m, a) -> {
                int answer = m.perform();
                m.text = "";
                return answer;
            }),
            Fault.bent("perform", (m, a) -> {
                String text = m.text;
                List<String> orders = Arrays.asList(text.split(","));
                Collections.reverse(orders);
                m.text = String.join(",", orders);
                int answer = m.perform();
                m.text = text;
                return answer;
            }));
        holds("all of them, or none", t -> {
            Face x = t.fresh();
            comeIn(x, 8, 9);
            x.comeOut();
            t.due(performed(x, "+8:5,-,+9,x1,<3=8,+7"), NOT_POSSIBLE);
            t.due(x.count(0), 1);
            t.due(x.count(1), 2);
            t.due(x.count(2), 1);
            t.due(x.count(3), 8);
            t.due(x.count(4), 2);
            t.due(x.count(7), 0);
            t.due(x.count(8), 3);
            t.due(x.out(0, 0), 0);
            t.due(x.entry(1, 2), 1);
            t.due(x.count(9), 20);
            t.due(performed(x, "+8,-,?"), -105);
            t.due(x.count(1), 2);
        }).not(
            Fault.flawed(Model.Flaw.PERFORM_LEAVES_WHAT_IS_DONE),
            Fault.bent("perform", (m, a) -> {
                int answer = m.perform();
                if (answer < -100) {
                    String text = m.text;
                    m.text = text.substring(0, text.lastIndexOf(','));
                    m.perform();
                    m.text = text;
                }
                return answer;
            }));
        holds("This is one act", t -> {
            Face x = t.fresh();
            t.due(performed(x, "+5,+6,+7,-,-,x2"), 6);
            t.due(x.count(8), 1);
            t.due(x.undo(), 0);
            t.due(x.count(0), 0);
            t.due(x.count(1), 0);
            t.due(x.count(3), 0);
            t.due(performed(x, "+5,+6,"), -106);
            t.due(performed(x, "+5,x9"), NOT_POSSIBLE);
            t.due(x.count(8), 0);
            t.due(performed(x, "-"), 1);
            t.due(x.count(8), 1);
        }).not(
            Fault.bent("perform", (m, a) -> unrecorded(m, m.perform())),
            Fault.bent("perform", (m, a) -> recorded(m, m.perform())),
            Fault.bent("perform", (m, a) -> {
                int answer = m.perform();
                recorded(m, answer > 1 ? NONE : answer);
                return answer;
            }));
        holds("An order whose method would return an error is refused; one that would return NONE does nothing", t -> {
            t.due(first(t, "-"), 1);
            t.due(first(t, "-,-,+1"), 3);
            Face x = t.fresh();
            t.due(performed(x, "-,+5,<0=5,-,-,+6"), 6);
            t.due(x.count(2), 1);
            t.due(x.count(0), 1);
            t.due(x.refusal(1), NONE);
            t.due(performed(x, "+4"), NOT_POSSIBLE);
            t.due(performed(x, "x0"), NOT_POSSIBLE);
            t.due(performed(x, "<1=4"), NOT_POSSIBLE);
            t.due(performed(x, "<1=7"), NOT_POSSIBLE);
            t.due(performed(x, "<0=5"), NOT_POSSIBLE);
        }).not(
            Fault.flawed(Model.Flaw.PERFORM_REFUSES_NONE),
            Fault.when("perform", (m, a) -> m.text.equals("x0"), 1),
            Fault.when("perform", (m, a) -> m.text.equals("<1=7"), 1));
    }

    private void performAnswers() {
        holds("Returns how many orders there are", t -> {
            t.due(first(t, "+1"), 1);
            t.due(first(t, "+1,+2"), 2);
            t.due(first(t, THIRTY), 30);
            t.due(first(t, THIRTY.substring(0, 58) + "+1"), 30);
            t.due(first(t, "+10000:100,+10000:100,+10000:100,+10000:100,+10000:100,+1000"), 6);
        }).not(Fault.told("perform", -1, 0, n -> n - 1), Fault.told("perform", -1, 0, n -> Math.min(n, 29)));
        holds("-100 minus the fault of the text if it has one (which is an error)", t -> {
            Face x = t.fresh();
            comeIn(x, 5);
            t.due(performed(x, ""), -100);
            t.due(performed(x, "-,"), -102);
            t.due(performed(x, THIRTY + ","), -160);
            t.due(performed(x, THIRTY + "+"), -159);
            t.due(performed(x, "-,x,"), -103);
            t.due(x.count(0), 1);
            t.due(x.count(8), 1);
            t.due(x.refusal(0), NONE);
        }).not(
            Fault.bent("perform", (m, a) -> Math.max(m.perform(), -100)),
            Fault.bent("perform", (m, a) -> recorded(m, m.perform())),
            Fault.bent("perform", (m, a) -> {
                int answer = m.perform();
                m.refusedError = answer < -100 ? answer : m.refusedError;
                return answer;
            }));
        holds("NOT_POSSIBLE if any order is refused when its turn comes", t -> {
            Face x = t.fresh();
            comeIn(x, 5);
            t.due(performed(x, "x1,+6"), NOT_POSSIBLE);
            t.due(performed(x, "+6,x1"), 2);
            t.due(performed(x, "+9,<2=8,-,x2,+4"), NOT_POSSIBLE);
            t.due(performed(x, "+4,-,+5"), 3);
            t.due(performed(x, "-,-,x0"), NOT_POSSIBLE);
            Face y = t.fresh();
            for (int i = 0; i < 40; i++) {
                y.comeIn(3, 0);
            }
            t.due(performed(y, "+3"), NOT_POSSIBLE);
            t.due(performed(y, "-,+3"), 2);
            t.due(performed(y, "x5,+3,+3"), NOT_POSSIBLE);
            t.due(performed(y, "+3,?"), -103);
        }).not(
            Fault.when("perform", (m, a) -> m.text.startsWith("+6,x1"), NOT_POSSIBLE),
            Fault.bent("perform", (m, a) -> {
                int answer = m.perform();
                return answer == NOT_POSSIBLE ? m.refusedError : answer;
            }),
            Fault.when("perform", (m, a) -> m.count(0) == 40 && m.text.startsWith("+"), NOT_POSSIBLE),
            Fault.when("perform", (m, a) -> m.count(0) == 40, NOT_POSSIBLE),
            Fault.when("perform", (m, a) -> m.text.endsWith("+4"), 5));
    }

    private void refusalAnswers() {
        under("Promise 12");
        holds("Tells of the latest refusal of perform()", t -> {
            Face x = t.fresh();
            t.due(performed(x, "-,x7"), NOT_POSSIBLE);
            t.due(x.refusal(0), 1);
            t.due(performed(x, "+5,-,+3"), NOT_POSSIBLE);
            t.due(x.refusal(0), 2);
            t.due(x.refusal(1), NOT_POSSIBLE);
            t.due(performed(x, "-"), 1);
            t.due(performed(x, "?"), -100);
            t.due(x.comeIn(-1, 0), BAD_VALUE);
            t.due(x.takeBack(5), UNKNOWN);
            t.due(x.refusal(0), 2);
            t.due(x.refusal(1), NOT_POSSIBLE);
        }).not(
            Fault.bent("perform", (m, a) -> {
                int former = m.refusedError;
                int order = m.refusedOrder;
                int answer = m.perform();
                m.refusedError = former == 0 ? m.refusedError : former;
                m.refusedOrder = former == 0 ? m.refusedOrder : order;
                return answer;
            }),
            Fault.bent("perform", (m, a) -> {
                int answer = m.perform();
                m.refusedError = answer == NOT_POSSIBLE ? m.refusedError : 0;
                return answer;
            }),
            Fault.bent("takeBack", (m, a) -> {
                m.refusedError = UNKNOWN;
                return m.takeBack(a[0]);
            }));
        holds("`what`: 0 for the number of the order in its text, from 0, 1 for the error that the method would have returned", t -> {
            Face x = t.fresh();
            t.due(x.refusal(-1), BAD_VALUE);
            t.due(x.refusal(2), BAD_VALUE);
            t.due(performed(x, "x0"), NOT_POSSIBLE);
            t.due(x.refusal(0), 0);
            t.due(x.refusal(1), UNKNOWN);
            t.due(performed(x, THIRTY.substring(0, 57) + ",x0"), NOT_POSSIBLE);
            t.due(x.refusal(0), 29);
            t.due(x.refusal(-1), BAD_VALUE);
            t.due(x.refusal(2), BAD_VALUE);
            t.due(x.refusal(MAX), BAD_VALUE);
            t.due(x.refusal(MIN), BAD_VALUE);
        }).not(Fault.range("refusal", 0, 0, 1, BAD_VALUE))
            .not(Fault.told("refusal", 0, 0, n -> n + 1), Fault.told("refusal", 0, 0, n -> Math.min(n, 28)));
        holds("Returns the number (an error as it is, below 0)", t -> {
            Face x = t.fresh();
            for (int i = 0; i < 40; i++) {
                x.comeIn(10, 0);
            }
            t.due(performed(x, "+10"), NOT_POSSIBLE);
            t.due(x.refusal(1), FULL);
            t.due(performed(x, "x40"), NOT_POSSIBLE);
            t.due(x.refusal(1), UNKNOWN);
            t.due(performed(x, "<0=11"), NOT_POSSIBLE);
            t.due(x.refusal(1), NOT_POSSIBLE);
            t.due(performed(x, "-,+9"), NOT_POSSIBLE);
            t.due(x.refusal(1), NOT_POSSIBLE);
            t.due(x.refusal(0), 1);
        }).not(
            Fault.bent("refusal", (m, a) -> a[0] == 1 ? -m.refusal(1) : m.refusal(a[0])),
            Fault.bent("refusal", (m, a) -> a[0] == 1 ? NOT_POSSIBLE : m.refusal(a[0])));
        holds("BAD_VALUE; NONE if no order was refused yet", t -> {
            Face x = t.fresh();
            t.due(x.refusal(0), NONE);
            t.due(x.refusal(1), NONE);
            t.due(x.refusal(2), BAD_VALUE);
            t.due(x.refusal(-1), BAD_VALUE);
            t.due(performed(x, "-,+1"), 2);
            t.due(performed(x, "x,"), -101);
            t.due(x.takeBack(9), UNKNOWN);
            t.due(x.refusal(0), NONE);
            t.due(x.refusal(1), NONE);
            t.due(performed(x, "x9"), NOT_POSSIBLE);
            t.due(x.refusal(0), 0);
        }).not(
            Fault.when("refusal", (m, a) -> m.refusedError == 0, NONE),
            Fault.answered("refusal", NONE, 0),
            Fault.answered("refusal", 0, NONE),
            Fault.bent("perform", (m, a) -> {
                int answer = m.perform();
                m.refusedError = answer <= -100 ? BAD_VALUE : m.refusedError;
                return answer;
            }));
    }
}
