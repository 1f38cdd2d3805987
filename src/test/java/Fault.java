import java.lang.reflect.InvocationTargetException;
import java.lang.reflect.Proxy;
import java.util.Arrays;
import java.util.function.Consumer;
import java.util.function.IntUnaryOperator;

/** Makes models in which a sentence of the document does not hold: the sentence's test has to see it. */
interface Fault {
    Face make();

    /** What a method answers (and does) in place of the model's own. */
    interface Bend {
        int answer(Model model, int[] arguments);
    }

    /** When a fault shows. */
    interface Case {
        boolean is(Model model, int[] arguments);
    }

    /** A model with other limits, or with flaws. */
    static Fault altered(Consumer<Model> change) {
        return () -> {
            Model model = new Model();
            change.accept(model);
            return model;
        };
    }

    static Fault flawed(Model.Flaw flaw) {
        return altered(model -> model.flaws.add(flaw));
    }

    /** A model one method of which is another one. */
    static Fault bent(String method, Bend bend) {
        return () -> {
            Model model = new Model();
            return (Face) Proxy.newProxyInstance(Face.class.getClassLoader(), new Class<?>[] {Face.class},
                (proxy, called, arguments) -> {
                    if (called.getName().equals(method)) {
                        return bend.answer(model, numbers(arguments));
                    }
                    try {
                        return called.invoke(model, arguments);
                    } catch (InvocationTargetException e) {
                        throw e.getCause();
                    }
                });
        };
    }

    private static int[] numbers(Object[] arguments) {
        return arguments == null ? new int[0] : Arrays.stream(arguments)
            .mapToInt(argument -> argument instanceof Character sign ? sign : (Integer) argument).toArray();
    }

    /** Does nothing, and answers something else, in a case. */
    static Fault when(String method, Case shown, int answer) {
        return bent(method, (model, a) -> shown.is(model, a) ? answer : call(model, method, a));
    }

    /** Does all as due, but answers something else in place of one answer. */
    static Fault answered(String method, int due, int answer) {
        return bent(method, (model, a) -> {
            int told = call(model, method, a);
            return told == due ? answer : told;
        });
    }

    /** Does all as due, but answers another number where a number is due and an argument is the one given. */
    static Fault told(String method, int at, int what, IntUnaryOperator other) {
        return bent(method, (model, a) -> {
            int told = call(model, method, a);
            return told >= 0 && (at < 0 || a[at] == what) ? other.applyAsInt(told) : told;
        });
    }

    /** The faults of a range: it takes what is too small, what is too great, or refuses one of its ends. */
    static Range range(String method, int at, int least, int most, int error) {
        return new Range(method, at, least, most, error);
    }

    record Range(String method, int at, int least, int most, int error) {
        Fault takesLess() {
            return bent(method, (model, a) -> call(model, method, with(a, Math.max(a[at], least))));
        }

        Fault takesOneLess() {
            return bent(method, (model, a) -> call(model, method, with(a, a[at] == least - 1 ? least : a[at])));
        }

        Fault takesMore() {
            return bent(method, (model, a) -> call(model, method, with(a, Math.min(a[at], most))));
        }

        Fault takesOneMore() {
            return bent(method, (model, a) -> call(model, method, with(a, a[at] == most + 1 ? most : a[at])));
        }

        Fault refusesTheLeast() {
            return when(method, (model, a) -> a[at] == least, error);
        }

        Fault refusesTheMost() {
            return when(method, (model, a) -> a[at] == most, error);
        }

        private int[] with(int[] arguments, int number) {
            int[] other = arguments.clone();
            other[at] = number;
            return other;
        }
    }

    static int call(Model m, String method, int[] a) {
        return switch (method) {
            case "comeIn" -> m.comeIn(a[0], a[1]);
            case "comeOut" -> m.comeOut();
            case "comeOutUpTo" -> m.comeOutUpTo(a[0]);
            case "less" -> m.less(a[0], a[1]);
            case "takeBack" -> m.takeBack(a[0]);
            case "road" -> m.road(a[0], a[1], a[2]);
            case "unroad" -> m.unroad(a[0], a[1]);
            case "type" -> m.type((char) a[0]);
            case "clearText" -> m.clearText();
            case "perform" -> m.perform();
            case "refusal" -> m.refusal(a[0]);
            case "undo" -> m.undo();
            case "keep" -> m.keep();
            case "restore" -> m.restore();
            case "entry" -> m.entry(a[0], a[1]);
            case "pile" -> m.pile(a[0], a[1]);
            case "next" -> m.next(a[0]);
            case "ranked" -> m.ranked(a[0]);
            case "movesLeft" -> m.movesLeft();
            case "out" -> m.out(a[0], a[1]);
            case "roadOf" -> m.roadOf(a[0], a[1]);
            case "distance" -> m.distance(a[0], a[1]);
            case "search" -> m.search(a[0], a[1]);
            case "count" -> m.count(a[0]);
            default -> throw new IllegalArgumentException("no such method: " + method);
        };
    }
}
