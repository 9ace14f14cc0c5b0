import java.lang.reflect.Constructor;
import java.lang.reflect.Field;
import java.lang.reflect.Method;
import java.lang.reflect.Modifier;
import java.util.Arrays;
import java.util.List;
import java.util.TreeSet;

/** The public face: the class, its constructor and its methods as the document has them, and no others. */
public final class FaceTest {
    private static final List<String> METHODS = List.of(
            "void clear(int)",
            "void begin()",
            "boolean vertex(int, int)",
            "boolean setClip(int, int, int, int)",
            "int clip()",
            "int vx(int)",
            "int vy(int)",
            "int fill(int)",
            "boolean inside(int, int)",
            "int pixel(int, int)",
            "int vertices()");

    public static void main(String[] args) {
        Check.sentence("public final class PolygonFrame", FaceTest::theClass);
        Check.sentence("public PolygonFrame(int w, int h, int vertCap), and no other", FaceTest::constructors);
        Check.sentence("the eleven methods, and no others", FaceTest::methods);
        Check.sentence("no constants", FaceTest::fields);
        Check.sentence("classes inside are static and not public", FaceTest::classesInside);
        Check.sentence("no private method bears the name of a public one", FaceTest::privateNames);
        Check.finish();
    }

    private static void theClass() {
        int modifiers = PolygonFrame.class.getModifiers();
        Check.due("public", Modifier.isPublic(modifiers), true);
        Check.due("final", Modifier.isFinal(modifiers), true);
        Check.due("without a package: name", PolygonFrame.class.getName(), "PolygonFrame");
        Check.due("of no other class: superclass", PolygonFrame.class.getSuperclass().getName(), "java.lang.Object");
    }

    private static void constructors() {
        Constructor<?>[] all = PolygonFrame.class.getDeclaredConstructors();
        Check.due("how many", all.length, 1);
        Check.due("public", Modifier.isPublic(all[0].getModifiers()), true);
        Check.due("parameters", parameters(all[0].getParameterTypes()), "(int, int, int)");
    }

    private static void methods() {
        TreeSet<String> seen = new TreeSet<>();
        for (Method method : PolygonFrame.class.getDeclaredMethods()) {
            if (!Modifier.isPrivate(method.getModifiers())) {
                Check.due(method + ": public", Modifier.isPublic(method.getModifiers()), true);
                Check.due(method + ": static", Modifier.isStatic(method.getModifiers()), false);
                seen.add(method.getReturnType() + " " + method.getName() + parameters(method.getParameterTypes()));
            }
        }
        Check.due("methods", seen.toString(), new TreeSet<>(METHODS).toString());
    }

    private static void fields() {
        for (Field field : PolygonFrame.class.getDeclaredFields()) {
            Check.due(field.getName() + ": private", Modifier.isPrivate(field.getModifiers()), true);
        }
    }

    private static void classesInside() {
        for (Class<?> inside : PolygonFrame.class.getDeclaredClasses()) {
            int modifiers = inside.getModifiers();
            Check.due(inside.getName() + ": static", Modifier.isStatic(modifiers), true);
            Check.due(inside.getName() + ": public", Modifier.isPublic(modifiers), false);
            Check.due(inside.getName() + ": protected", Modifier.isProtected(modifiers), false);
        }
    }

    private static void privateNames() {
        for (Method method : PolygonFrame.class.getDeclaredMethods()) {
            boolean taken = METHODS.stream().anyMatch(one -> one.contains(" " + method.getName() + "("));
            Check.due(method + ": private", Modifier.isPrivate(method.getModifiers()), !taken);
        }
    }

    private static String parameters(Class<?>[] types) {
        return Arrays.toString(types).replace('[', '(').replace(']', ')');
    }
}
