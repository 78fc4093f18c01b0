import java.lang.reflect.Field;
import java.lang.reflect.Method;
import java.lang.reflect.Modifier;
import java.util.Arrays;
import java.util.List;
import java.util.TreeSet;

/** The class shows the document's face and nothing else. */
final class FaceTests {
    private static final List<String> FACE = List.of(
            "boolean isComplete()", "double meanPoints(boolean)", "int advice()", "int begin()",
            "int count(int, boolean)", "int draw(int)", "int drop(int)", "int fans(boolean)", "int grow(int)",
            "int meld(int, int, boolean)", "int meldAt(int, int)", "int melds()", "int missing()", "int outs()",
            "int points(boolean)", "int see(int)", "int setPoints(int, int)", "int setWinds(int, int)", "int size()",
            "long digest()", "long waits()");

    static void all(Check check) {
        check.same("face: public and final", Modifier.toString(TileHand.class.getModifiers()), "public final");
        check.same("face: one constructor", TileHand.class.getDeclaredConstructors().length, 1);
        TreeSet<String> shown = new TreeSet<>();
        TreeSet<String> hidden = new TreeSet<>();
        for (Method method : TileHand.class.getDeclaredMethods()) {
            if (Modifier.isPrivate(method.getModifiers())) {
                hidden.add(method.getName());
            } else {
                check.same("face: " + method, Modifier.toString(method.getModifiers()), "public");
                shown.add(told(method));
            }
        }
        check.same("face: methods", shown, new TreeSet<>(FACE));
        for (String call : FACE) {
            String name = call.substring(call.indexOf(' ') + 1, call.indexOf('('));
            check.same("face: no private method is named " + name, hidden.contains(name), false);
        }
        for (Field field : TileHand.class.getDeclaredFields()) {
            check.same("face: private " + field, Modifier.isPrivate(field.getModifiers()), true);
        }
    }

    private static String told(Method method) {
        String parameters = Arrays.toString(method.getParameterTypes());
        return method.getReturnType() + " " + method.getName()
                + "(" + parameters.substring(1, parameters.length() - 1) + ")";
    }
}
