import java.lang.reflect.Constructor;
import java.lang.reflect.Field;
import java.lang.reflect.Method;
import java.lang.reflect.Modifier;
import java.util.Arrays;
import java.util.List;
import java.util.TreeSet;

/** The public face: the class, its constructor and its methods as the document has them, and no others. */
public final class FaceTest {
    private static final List<String> METHODS = List.of(
            "void clear(int)",
            "void begin()",
            "boolean vertex(int, int)",
            "boolean setClip(int, int, int, int)",
            "int clip()",
            "int vx(int)",
            "int vy(int)",
            "int fill(int)",
            "boolean inside(int, int)",
            "int pixel(int, int)",
            "int vertices()");

    public static void main(String[] args) {
        int modifiers = PolygonFrame.class.getModifiers();
        Check.due("the class is public", Modifier.isPublic(modifiers), true);
        Check.due("the class is final", Modifier.isFinal(modifiers), true);
        methods();
        constructors();
        for (Field field : PolygonFrame.class.getDeclaredFields()) {
            Check.due("private field " + field.getName(), Modifier.isPrivate(field.getModifiers()), true);
        }
        for (Class<?> inner : PolygonFrame.class.getDeclaredClasses()) {
            Check.due("static class " + inner.getName(), Modifier.isStatic(inner.getModifiers()), true);
            Check.due("public class " + inner.getName(), Modifier.isPublic(inner.getModifiers()), false);
        }
        Check.finish();
    }

    private static void methods() {
        TreeSet<String> seen = new TreeSet<>();
        for (Method method : PolygonFrame.class.getDeclaredMethods()) {
            if (!Modifier.isPrivate(method.getModifiers())) {
                Check.due(method + " is public", Modifier.isPublic(method.getModifiers()), true);
                Check.due(method + " is static", Modifier.isStatic(method.getModifiers()), false);
                seen.add(method.getReturnType() + " " + method.getName() + parameters(method.getParameterTypes()));
            }
        }
        Check.due("the methods are the document's: " + seen, seen.equals(new TreeSet<>(METHODS)), true);
    }

    private static void constructors() {
        Constructor<?>[] all = PolygonFrame.class.getDeclaredConstructors();
        Check.due("constructors", all.length, 1);
        Check.due("the constructor is public", Modifier.isPublic(all[0].getModifiers()), true);
        Check.due("the constructor's parameters", parameters(all[0].getParameterTypes()).equals("(int, int, int)"), true);
    }

    private static String parameters(Class<?>[] types) {
        return Arrays.toString(types).replace('[', '(').replace(']', ')');
    }
}
