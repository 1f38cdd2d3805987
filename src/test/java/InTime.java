import java.lang.reflect.InvocationTargetException;

/** Runs the main method of a test, and ends with exit code 1 if that does not end: a call that hangs fails its test. */
public final class InTime {
    private static final int MOST_SECONDS = 120;

    public static void main(String[] args) throws ReflectiveOperationException {
        Thread watch = new Thread(() -> haltLater(args[0]));
        watch.setDaemon(true);
        watch.start();
        try {
            Class.forName(args[0]).getMethod("main", String[].class).invoke(null, (Object) new String[0]);
        } catch (InvocationTargetException e) {
            e.getCause().printStackTrace();
            System.exit(1);
        }
    }

    private static void haltLater(String test) {
        try {
            Thread.sleep(MOST_SECONDS * 1000L);
        } catch (InterruptedException e) {
            return;
        }
        System.out.println(test + ": not ended after " + MOST_SECONDS + " seconds");
        Runtime.getRuntime().halt(1);
    }
}
