import java.lang.reflect.Constructor;
import java.lang.reflect.Field;
import java.lang.reflect.Method;
import java.lang.reflect.Modifier;
import java.util.Set;
import java.util.TreeSet;

/** The public face, as the document writes it, and nothing else that can be seen from outside. */
public final class FaceTest {
    private static final String[] METHODS = {
        "int setGrey(int,int) throws IndexOutOfBoundsException,IllegalArgumentException",
        "int shadeRow(int,int,int) throws IndexOutOfBoundsException,IllegalArgumentException",
        "int fill(int,int,int,int) throws IndexOutOfBoundsException,IllegalArgumentException",
        "int invert()",
        "int thaw(int) throws IllegalArgumentException",
        "int setRule(int) throws IllegalArgumentException",
        "int setThreshold(int) throws IllegalArgumentException",
        "boolean turnWinding()",
        "int greyOf(int) throws IndexOutOfBoundsException",
        "int greySum()",
        "int cellAt(int) throws IndexOutOfBoundsException",
        "long flakes()",
        "long flakesByCollecting()",
        "int flakeCount()",
        "int valueOf(int) throws IndexOutOfBoundsException",
        "int errorOf(int) throws IndexOutOfBoundsException",
        "int lost()",
        "int handedOn(int,int) throws IndexOutOfBoundsException",
        "int squareError(int) throws IndexOutOfBoundsException",
        "int roughness()",
        "int smoothestRule()",
        "int thresholdFor(int) throws IllegalArgumentException",
        "double excess()",
        "int appendText(long) throws IllegalArgumentException,IllegalStateException",
        "int clearText()",
        "int textLength()",
        "int textError()",
        "int runText() throws IllegalStateException",
        "int undo() throws IllegalStateException",
        "int undoCount()",
        "int saveState(int) throws IndexOutOfBoundsException",
        "int loadState(int) throws IndexOutOfBoundsException,IllegalStateException",
    };

    public static void main(String[] args) {
        constants();
        methods();
        nothingElse();
        Check.end();
    }

    private static void constants() {
        Check.due("NONE", FlakePainter.NONE, -1);
        Check.due("PLAIN", FlakePainter.PLAIN, 0);
        Check.due("CROSS", FlakePainter.CROSS, 1);
        Check.due("FULL", FlakePainter.FULL, 2);
        Check.due("WIDE", FlakePainter.WIDE, 3);
    }

    private static void methods() {
        Set<String> due = new TreeSet<>(Set.of(METHODS));
        Set<String> got = new TreeSet<>();
        for (Method method : FlakePainter.class.getDeclaredMethods()) {
            if (Modifier.isPublic(method.getModifiers())) {
                got.add(written(method));
            }
        }
        Check.due("methods " + got + ", due are " + due, got.equals(due), true);
    }

    private static String written(Method method) {
        String written = method.getReturnType() + " " + method.getName() + "(" + names(method.getParameterTypes()) + ")";
        String thrown = names(method.getExceptionTypes());
        return thrown.isEmpty() ? written : written + " throws " + thrown;
    }

    private static String names(Class<?>[] types) {
        StringBuilder names = new StringBuilder();
        for (Class<?> type : types) {
            names.append(names.length() == 0 ? "" : ",").append(type.getSimpleName());
        }
        return names.toString();
    }

    private static void nothingElse() {
        Check.due("public and final", FlakePainter.class.getModifiers(), Modifier.PUBLIC | Modifier.FINAL);
        Constructor<?>[] constructors = FlakePainter.class.getDeclaredConstructors();
        Check.due("constructors", constructors.length, 1);
        Check.due("arguments of the constructor", constructors[0].getParameterCount(), 0);
        Set<String> publicNames = new TreeSet<>();
        for (Method method : FlakePainter.class.getMethods()) {
            publicNames.add(method.getName());
        }
        for (Method method : FlakePainter.class.getDeclaredMethods()) {
            int modifiers = method.getModifiers();
            boolean hidden = Modifier.isPrivate(modifiers) && !publicNames.contains(method.getName());
            Check.due("method " + method.getName(), Modifier.isPublic(modifiers) || hidden, true);
        }
        Set<String> constants = Set.of("NONE", "PLAIN", "CROSS", "FULL", "WIDE");
        int seen = 0;
        for (Field field : FlakePainter.class.getDeclaredFields()) {
            int modifiers = field.getModifiers();
            boolean isPublic = Modifier.isPublic(modifiers);
            Check.due("field " + field.getName(), isPublic == constants.contains(field.getName())
                && (isPublic || Modifier.isPrivate(modifiers)), true);
            Check.due("static field " + field.getName(), !Modifier.isStatic(modifiers) || Modifier.isFinal(modifiers), true);
            seen += isPublic ? 1 : 0;
        }
        Check.due("constants", seen, constants.size());
    }
}
