import java.lang.reflect.Constructor;
import java.lang.reflect.Field;
import java.lang.reflect.Method;
import java.lang.reflect.Modifier;
import java.util.ArrayList;
import java.util.Collections;
import java.util.HashSet;
import java.util.List;
import java.util.Set;

/** The class has the document's whole face, and nothing else that can be seen from outside. */
public final class FaceTest {
    private static final String[] FACE = {
        "int begin(int, int) throws IllegalArgumentException",
        "int exchange(int, int, int) throws IllegalArgumentException, IndexOutOfBoundsException",
        "int cut(int, int, int, int) throws IndexOutOfBoundsException, IllegalArgumentException, IllegalStateException",
        "int connect(int, int, int, int, int)"
            + " throws IndexOutOfBoundsException, IllegalArgumentException, IllegalStateException",
        "int repair(int) throws IndexOutOfBoundsException",
        "int plug(int) throws IllegalArgumentException",
        "int pass(int) throws IllegalArgumentException, IllegalStateException",
        "int append(int) throws IllegalArgumentException, IllegalStateException",
        "int clearBuffer()",
        "int firstError()",
        "int load() throws IllegalArgumentException, IllegalStateException",
        "int joined(int, int, int) throws IllegalArgumentException, IndexOutOfBoundsException",
        "int status(int) throws IndexOutOfBoundsException",
        "int echo(int, int) throws IndexOutOfBoundsException, IllegalArgumentException",
        "int crosstalk(int, int) throws IndexOutOfBoundsException",
        "int identify()",
        "int records(int, int) throws IndexOutOfBoundsException, IllegalArgumentException",
        "int suspect()",
        "int nextChange()",
        "int explain(int) throws IllegalArgumentException",
        "int explained(int) throws IndexOutOfBoundsException",
        "int count(int) throws IllegalArgumentException",
        "int fault(int, int) throws IndexOutOfBoundsException, IllegalArgumentException",
        "int wire(int, int) throws IllegalArgumentException, IndexOutOfBoundsException",
        "double wrongShare()",
        "long digest()",
    };

    private FaceTest() {
    }

    public static void main(String[] args) {
        Class<?> face = CableTester.class;
        Check.due("the modifiers", face.getModifiers(), Modifier.PUBLIC | Modifier.FINAL);
        Check.due("NONE", CableTester.NONE, -1);
        Check.due("constructors", face.getDeclaredConstructors().length, 1);
        for (Constructor<?> constructor : face.getDeclaredConstructors()) {
            Check.due("public constructor", constructor.getModifiers(), Modifier.PUBLIC);
            Check.due("arguments of the constructor", constructor.getParameterCount(), 0);
        }
        List<String> due = new ArrayList<>(List.of(FACE));
        Collections.sort(due);
        Check.dueText("the public methods", String.join("\n", publicMethods(face)), String.join("\n", due));
        checkFields(face);
        checkNestedNames(face);
        Check.finish();
    }

    private static List<String> publicMethods(Class<?> face) {
        List<String> found = new ArrayList<>();
        for (Method method : face.getDeclaredMethods()) {
            if (!Modifier.isPrivate(method.getModifiers())) {
                found.add(written(method));
            }
        }
        Collections.sort(found);
        return found;
    }

    private static String written(Method method) {
        String text = method.getReturnType().getSimpleName() + " " + method.getName()
            + "(" + names(method.getParameterTypes()) + ")";
        Class<?>[] thrown = method.getExceptionTypes();
        return thrown.length == 0 ? text : text + " throws " + names(thrown);
    }

    private static String names(Class<?>[] types) {
        List<String> names = new ArrayList<>();
        for (Class<?> type : types) {
            names.add(type.getSimpleName());
        }
        return String.join(", ", names);
    }

    private static void checkFields(Class<?> face) {
        for (Field field : face.getDeclaredFields()) {
            boolean seen = !Modifier.isPrivate(field.getModifiers());
            Check.due(field.getName() + " can be seen", seen ? 1 : 0, field.getName().equals("NONE") ? 1 : 0);
        }
    }

    private static void checkNestedNames(Class<?> face) {
        Set<String> publicNames = new HashSet<>();
        for (Method method : face.getMethods()) {
            if (method.getDeclaringClass() == face) {
                publicNames.add(method.getName());
            }
        }
        for (Class<?> nested : face.getDeclaredClasses()) {
            Check.due(nested + " is static", Modifier.isStatic(nested.getModifiers()) ? 1 : 0, 1);
            for (Method method : nested.getDeclaredMethods()) {
                Check.due("a second " + method.getName(), publicNames.contains(method.getName()) ? 1 : 0, 0);
            }
        }
    }
}
