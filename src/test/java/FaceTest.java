import java.lang.reflect.Constructor;
import java.lang.reflect.Field;
import java.lang.reflect.Method;
import java.lang.reflect.Modifier;
import java.util.Arrays;
import java.util.TreeSet;

/** The public face: the document's constants, constructor and methods, and nothing else that can be seen. */
public final class FaceTest {
    private static final String[] METHODS = {
        "comeIn(int,int)", "comeOut()", "comeOutUpTo(int)", "less(int,int)", "takeBack(int)",
        "road(int,int,int)", "unroad(int,int)", "type(char)", "clearText()", "perform()", "refusal(int)",
        "undo()", "keep()", "restore()", "entry(int,int)", "pile(int,int)", "next(int)", "ranked(int)",
        "movesLeft()", "out(int,int)", "roadOf(int,int)", "distance(int,int)", "search(int,int)", "count(int)",
    };
    private static final String[] CONSTANTS = {"UNKNOWN", "BAD_VALUE", "FULL", "NOT_POSSIBLE", "NONE"};

    public static void main(String[] args) {
        Due due = new Due("FaceTest");
        due.is("UNKNOWN", RisingPiles.UNKNOWN, -1);
        due.is("BAD_VALUE", RisingPiles.BAD_VALUE, -2);
        due.is("FULL", RisingPiles.FULL, -3);
        due.is("NOT_POSSIBLE", RisingPiles.NOT_POSSIBLE, -4);
        due.is("NONE", RisingPiles.NONE, -5);
        due.isTrue("the class is public and final",
            Modifier.isPublic(RisingPiles.class.getModifiers()) && Modifier.isFinal(RisingPiles.class.getModifiers()));
        methods(due);
        constants(due);
        constructors(due);
        classesInside(due);
        due.end();
    }

    private static void methods(Due due) {
        TreeSet<String> seen = new TreeSet<>();
        TreeSet<String> seenNames = new TreeSet<>();
        TreeSet<String> hiddenNames = new TreeSet<>();
        for (Method method : RisingPiles.class.getDeclaredMethods()) {
            if (Modifier.isPrivate(method.getModifiers())) {
                hiddenNames.add(method.getName());
                continue;
            }
            due.isTrue(method + " is public, not static, and answers an int", Modifier.isPublic(method.getModifiers())
                && !Modifier.isStatic(method.getModifiers()) && method.getReturnType() == int.class);
            String parameters = Arrays.toString(method.getParameterTypes()).replaceAll("[\\[\\] ]", "");
            seen.add(method.getName() + "(" + parameters + ")");
            seenNames.add(method.getName());
        }
        due.isTrue("the methods are the document's: " + seen, seen.equals(new TreeSet<>(Arrays.asList(METHODS))));
        hiddenNames.retainAll(seenNames);
        due.isTrue("no private method bears a public name: " + hiddenNames, hiddenNames.isEmpty());
    }

    private static void constants(Due due) {
        TreeSet<String> seen = new TreeSet<>();
        for (Field field : RisingPiles.class.getDeclaredFields()) {
            int modifiers = field.getModifiers();
            due.isTrue(field + " is final if it is static", !Modifier.isStatic(modifiers) || Modifier.isFinal(modifiers));
            if (!Modifier.isPrivate(modifiers)) {
                due.isTrue(field + " is a public static final int", field.getType() == int.class
                    && Modifier.isPublic(modifiers) && Modifier.isStatic(modifiers) && Modifier.isFinal(modifiers));
                seen.add(field.getName());
            }
        }
        due.isTrue("the constants are the document's: " + seen, seen.equals(new TreeSet<>(Arrays.asList(CONSTANTS))));
    }

    private static void constructors(Due due) {
        Constructor<?>[] found = RisingPiles.class.getDeclaredConstructors();
        due.is("how many constructors there are", found.length, 1);
        due.isTrue("the constructor is public and takes nothing", found.length == 1
            && Modifier.isPublic(found[0].getModifiers()) && found[0].getParameterCount() == 0);
    }

    private static void classesInside(Due due) {
        TreeSet<String> names = new TreeSet<>();
        for (String method : METHODS) {
            names.add(method.substring(0, method.indexOf('(')));
        }
        for (Class<?> inside : RisingPiles.class.getDeclaredClasses()) {
            int modifiers = inside.getModifiers();
            due.isTrue(inside + " is static, and private or package-visible", Modifier.isStatic(modifiers)
                && !Modifier.isPublic(modifiers) && !Modifier.isProtected(modifiers));
            for (Method method : inside.getDeclaredMethods()) {
                due.isTrue(method + " bears no public name",
                    !Modifier.isPrivate(method.getModifiers()) || !names.contains(method.getName()));
            }
        }
    }
}
