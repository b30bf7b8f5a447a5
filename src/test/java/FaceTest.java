import java.lang.reflect.Constructor;
import java.lang.reflect.Field;
import java.lang.reflect.Member;
import java.lang.reflect.Method;
import java.lang.reflect.Modifier;
import java.util.ArrayList;
import java.util.List;
import java.util.Set;
import java.util.TreeSet;

/** The public face of the document, and rules 1 and 5 of LANGUAGE.md. */
public final class FaceTest {
    private static final String STATE = "IllegalStateException";
    private static final String ARGUMENT = "IllegalArgumentException";
    private static final String ELEMENT = "NoSuchElementException";
    private static final String UNSUPPORTED = "UnsupportedOperationException";
    private static final String INDEX = "IndexOutOfBoundsException";

    private static final Set<String> FACE = Set.of(
            face("init", "int", ARGUMENT, STATE),
            face("begin", "int int", ARGUMENT, ELEMENT, STATE),
            face("send", "int int int int int", ARGUMENT, ELEMENT, STATE, UNSUPPORTED),
            face("pend", "int int int int int", ARGUMENT, ELEMENT, STATE),
            face("finish", "int int boolean", ARGUMENT, ELEMENT, STATE, UNSUPPORTED),
            face("step", ""),
            face("plain", "int int", ARGUMENT, STATE),
            face("copy", "int int", ARGUMENT),
            face("lose", "int", ARGUMENT),
            face("fetch", "int int boolean", ARGUMENT, INDEX, ELEMENT),
            face("last", ""),
            face("trim", "int int", ARGUMENT, INDEX),
            face("join", "int int", ARGUMENT, STATE),
            face("leave", "int int", ARGUMENT, ELEMENT),
            face("beat", "int int int", ARGUMENT, ELEMENT, STATE),
            face("mark", "int int int int int", ARGUMENT, ELEMENT, STATE, UNSUPPORTED),
            face("tick", "int", ARGUMENT),
            face("edge", "int int", ARGUMENT),
            face("fact", "int int", ARGUMENT));

    public static void main(String[] args) {
        classIsPublicAndFinal();
        publicMethodsAreTheDocuments();
        allElseIsPrivate();
        staticFieldsAreFinal();
        Script.end();
    }

    private static String face(String name, String parameters, String... exceptions) {
        return name + "(" + parameters + ") throws " + String.join(" ", exceptions);
    }

    private static String names(Class<?>[] types) {
        List<String> names = new ArrayList<>();
        for (Class<?> type : types) {
            names.add(type.getSimpleName());
        }
        return String.join(" ", names);
    }

    private static void classIsPublicAndFinal() {
        int modifiers = FencedBroker.class.getModifiers();
        Script.same("the class's modifiers", Modifier.toString(modifiers), "public final");
        Constructor<?>[] constructors = FencedBroker.class.getDeclaredConstructors();
        Script.same("constructors", constructors.length, 1);
        Script.same("the constructor", constructors[0].toString(), "public FencedBroker()");
    }

    private static void publicMethodsAreTheDocuments() {
        Set<String> found = new TreeSet<>();
        for (Method method : FencedBroker.class.getDeclaredMethods()) {
            if (!Modifier.isPrivate(method.getModifiers())) {
                found.add(face(method.getName(), names(method.getParameterTypes()), names(method.getExceptionTypes())));
                Script.same(method + " is", Modifier.toString(method.getModifiers()), "public");
                Script.same(method + " answers", method.getReturnType(), int.class);
            }
        }
        Script.same("the face", found, new TreeSet<>(FACE));
    }

    private static void allElseIsPrivate() {
        for (Field field : FencedBroker.class.getDeclaredFields()) {
            Script.same(field + " is private", isPrivate(field), true);
        }
        for (Class<?> inside : FencedBroker.class.getDeclaredClasses()) {
            Script.same(inside + " is static", Modifier.isStatic(inside.getModifiers()), true);
            for (Method method : inside.getDeclaredMethods()) {
                String start = method.getName() + "(";
                boolean taken = FACE.stream().anyMatch(row -> row.startsWith(start));
                Script.same(method + " has a name of the face", taken, false);
            }
        }
    }

    private static void staticFieldsAreFinal() {
        List<Class<?>> classes = new ArrayList<>(List.of(FencedBroker.class.getDeclaredClasses()));
        classes.add(FencedBroker.class);
        for (Class<?> one : classes) {
            for (Field field : one.getDeclaredFields()) {
                if (Modifier.isStatic(field.getModifiers())) {
                    Script.same(field + " is final", Modifier.isFinal(field.getModifiers()), true);
                }
            }
        }
    }

    private static boolean isPrivate(Member member) {
        return Modifier.isPrivate(member.getModifiers());
    }
}
