import java.lang.reflect.Constructor;
import java.lang.reflect.Field;
import java.lang.reflect.Method;
import java.lang.reflect.Modifier;
import java.util.Arrays;
import java.util.Set;
import java.util.TreeSet;
import java.util.stream.Collectors;

/** The public face: every member of the document with its exceptions, and no other. */
public final class FaceTest {
    private static final String[] FACE = {
        "int plant(int, char, int) throws IndexOutOfBoundsException, IllegalArgumentException, IllegalStateException",
        "int pick(int) throws IndexOutOfBoundsException, NoSuchElementException, UnsupportedOperationException",
        "int addInk(char, int) throws IllegalArgumentException",
        "int sharpen(int, int) throws NoSuchElementException, IllegalArgumentException",
        "int blunt(int, int) throws NoSuchElementException, IllegalArgumentException",
        "int uproot(int) throws NoSuchElementException",
        "int move(int, int) throws NoSuchElementException, IndexOutOfBoundsException, IllegalStateException",
        "int merge(int, int) throws IndexOutOfBoundsException, IllegalArgumentException",
        "int reorder(int) throws IndexOutOfBoundsException",
        "int recall(char) throws IllegalArgumentException",
        "int pens()",
        "boolean exists(int)",
        "char feather(int) throws NoSuchElementException",
        "int date(int) throws NoSuchElementException",
        "int nestOf(int) throws NoSuchElementException",
        "int indexOf(int) throws NoSuchElementException",
        "int parentOf(int) throws NoSuchElementException",
        "int depth(int) throws NoSuchElementException",
        "int rankOf(int) throws NoSuchElementException",
        "int size(int) throws IndexOutOfBoundsException",
        "int penAt(int, int) throws IndexOutOfBoundsException, NoSuchElementException",
        "int penByRank(int, int) throws IndexOutOfBoundsException, NoSuchElementException",
        "int penBySorting(int, int) throws IndexOutOfBoundsException, NoSuchElementException",
        "int countBefore(int, int) throws IndexOutOfBoundsException",
        "int countBeforeByScan(int, int) throws IndexOutOfBoundsException",
        "int looksBefore(int, int) throws IndexOutOfBoundsException",
        "int levels(int) throws IndexOutOfBoundsException",
        "int pensWith(char) throws IllegalArgumentException",
        "int ink(char) throws IllegalArgumentException",
        "char commonFeather() throws NoSuchElementException",
        "int picked()",
        "long exchanges()",
        "double meanDate() throws ArithmeticException",
        "float pickedShare() throws ArithmeticException",
        "boolean isConsistent()",
        "int writeNest(int) throws IndexOutOfBoundsException",
        "int writeInk()",
        "char charAt(int) throws IndexOutOfBoundsException",
        "int type(char) throws IllegalStateException",
        "int run() throws IllegalArgumentException, UnsupportedOperationException",
        "int errorPosition() throws NoSuchElementException",
        "int failedCommand() throws NoSuchElementException",
        "int undo() throws IllegalStateException",
        "int save()",
        "int restore() throws IllegalStateException",
    };

    private FaceTest() {
    }

    public static void main(String[] args) {
        Class<?> face = PenNursery.class;
        Check.due("modifiers", face.getModifiers(), Modifier.PUBLIC | Modifier.FINAL);
        Constructor<?>[] constructors = face.getDeclaredConstructors();
        Check.due("constructors", constructors.length, 1);
        Check.due("constructor", constructors[0].toString(), "public PenNursery()");
        for (Field field : face.getDeclaredFields()) {
            Check.due("private " + field, Modifier.isPrivate(field.getModifiers()), true);
        }
        methods(face);
        Check.end();
    }

    private static void methods(Class<?> face) {
        Set<String> methods = new TreeSet<>();
        Set<String> names = new TreeSet<>();
        for (Method method : face.getDeclaredMethods()) {
            if (!Modifier.isPrivate(method.getModifiers())) {
                Check.due("modifiers of " + method, method.getModifiers(), Modifier.PUBLIC);
                methods.add(written(method));
                names.add(method.getName());
            }
        }
        for (Method method : face.getDeclaredMethods()) {
            if (Modifier.isPrivate(method.getModifiers())) {
                Check.due("a public name of " + method, names.contains(method.getName()), false);
            }
        }
        Check.due("methods", methods, new TreeSet<>(Arrays.asList(FACE)));
    }

    private static String written(Method method) {
        String thrown = simpleNames(method.getExceptionTypes());
        return method.getReturnType().getSimpleName() + " " + method.getName()
                + "(" + simpleNames(method.getParameterTypes()) + ")" + (thrown.isEmpty() ? "" : " throws " + thrown);
    }

    private static String simpleNames(Class<?>[] types) {
        return Arrays.stream(types).map(Class::getSimpleName).collect(Collectors.joining(", "));
    }
}
