import java.lang.reflect.Constructor;
import java.lang.reflect.Field;
import java.lang.reflect.Method;
import java.lang.reflect.Modifier;
import java.util.Arrays;
import java.util.List;
import java.util.TreeSet;
import java.util.stream.Collectors;

/** The class shows the document's face, with the exceptions that it names, and nothing else. */
final class FaceTests {
    private static final String INDEX = "IndexOutOfBoundsException";
    private static final String ARGUMENT = "IllegalArgumentException";
    private static final String STATE = "IllegalStateException";
    private static final List<String> FACE = List.of(
            "int draw(int) throws " + INDEX + ", " + STATE,
            "int drop(int) throws " + INDEX + ", " + STATE,
            "int see(int) throws " + INDEX + ", " + STATE,
            "int meld(int, int, boolean) throws " + INDEX + ", " + ARGUMENT + ", " + STATE,
            "int grow(int) throws " + INDEX + ", " + STATE,
            "int begin()",
            "int size()",
            "int count(int, boolean) throws " + INDEX,
            "int melds()",
            "int meldAt(int, int) throws " + INDEX,
            "boolean isComplete()",
            "long waits()",
            "int outs()",
            "int missing()",
            "int advice() throws " + STATE,
            "int setWinds(int, int) throws " + ARGUMENT,
            "int setPoints(int, int) throws " + ARGUMENT,
            "int fans(boolean) throws " + STATE,
            "int points(boolean) throws " + STATE,
            "double meanPoints(boolean)",
            "long digest()");

    static void all(Check check) {
        check.same("face: public and final", Modifier.toString(TileHand.class.getModifiers()), "public final");
        check.same("face: one constructor", TileHand.class.getDeclaredConstructors().length, 1);
        check.same("face: it is public", told(TileHand.class.getDeclaredConstructors()[0]), "public TileHand()");
        TreeSet<String> shown = new TreeSet<>();
        TreeSet<String> hidden = new TreeSet<>();
        for (Method method : TileHand.class.getDeclaredMethods()) {
            if (Modifier.isPrivate(method.getModifiers())) {
                hidden.add(method.getName());
            } else {
                check.same("face: " + method, Modifier.toString(method.getModifiers()), "public");
                shown.add(told(method));
            }
        }
        check.same("face: methods", shown, new TreeSet<>(FACE));
        for (String call : FACE) {
            String name = call.substring(call.indexOf(' ') + 1, call.indexOf('('));
            check.same("face: no private method is named " + name, hidden.contains(name), false);
        }
        for (Field field : TileHand.class.getDeclaredFields()) {
            check.same("face: private " + field, Modifier.isPrivate(field.getModifiers()), true);
        }
    }

    private static String told(Constructor<?> constructor) {
        return Modifier.toString(constructor.getModifiers()) + " " + constructor.getName()
                + "(" + names(constructor.getParameterTypes()) + ")" + thrown(constructor.getExceptionTypes());
    }

    private static String told(Method method) {
        return method.getReturnType() + " " + method.getName()
                + "(" + names(method.getParameterTypes()) + ")" + thrown(method.getExceptionTypes());
    }

    private static String thrown(Class<?>[] exceptions) {
        return exceptions.length == 0 ? "" : " throws " + names(exceptions);
    }

    private static String names(Class<?>[] types) {
        return Arrays.stream(types).map(Class::getSimpleName).collect(Collectors.joining(", "));
    }
}
