import java.lang.reflect.InvocationTargetException;
import java.lang.reflect.Method;
import java.lang.reflect.Proxy;
import java.util.ArrayList;
import java.util.Arrays;
import java.util.List;
import java.util.function.Supplier;
import java.util.stream.Collectors;

/** One go of a sentence's test; it keeps the calls of each object, to tell them when an answer is not as due. */
final class Trial {
    private static final int CALLS_TOLD = 12;
    private static final int MOST_CALLS = 512;

    private final Supplier<Face> maker;
    private final List<String> wrong = new ArrayList<>();
    private List<String> calls = new ArrayList<>();
    private int asked;

    Trial(Supplier<Face> maker) {
        this.maker = maker;
    }

    int asked() {
        return asked;
    }

    List<String> wrong() {
        return wrong;
    }

    Face fresh() {
        Face face = maker.get();
        List<String> own = new ArrayList<>();
        return (Face) Proxy.newProxyInstance(Face.class.getClassLoader(), new Class<?>[] {Face.class},
            (proxy, method, arguments) -> called(face, own, method, arguments));
    }

    private Object called(Face face, List<String> own, Method method, Object[] arguments) throws Throwable {
        calls = own;
        if (calls.size() == MOST_CALLS) {
            throw new IllegalStateException("more calls of one object than the document allows");
        }
        Object answer;
        try {
            answer = method.invoke(face, arguments);
        } catch (InvocationTargetException e) {
            throw e.getCause();
        }
        Object[] told = arguments == null ? new Object[0] : arguments;
        calls.add(method.getName() + Arrays.stream(told).map(Trial::told).collect(Collectors.joining(", ", "(", ")"))
            + " = " + answer);
        return answer;
    }

    private static String told(Object argument) {
        return argument instanceof Character sign ? "(char) " + (int) sign : argument.toString();
    }

    /** The answer of the latest call, and the one that is due. */
    void due(int got, int want) {
        asked++;
        if (got != want) {
            wrong.add("due is " + want + " of the last one of " + lastCalls());
        }
    }

    /** Two pictures of objects, which are to be the same. */
    void same(String claim, String got, String want) {
        asked++;
        if (!got.equals(want)) {
            wrong.add(claim + ": " + got + " and not " + want);
        }
    }

    private String lastCalls() {
        int from = Math.max(0, calls.size() - CALLS_TOLD);
        return (from > 0 ? "[.., " : "[") + String.join(", ", calls.subList(from, calls.size())) + "]";
    }
}
