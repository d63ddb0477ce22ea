import java.io.IOException;
import java.lang.reflect.Constructor;
import java.lang.reflect.Field;
import java.lang.reflect.Method;
import java.lang.reflect.Modifier;
import java.nio.file.Files;
import java.nio.file.Path;
import java.util.ArrayList;
import java.util.Arrays;
import java.util.List;
import java.util.NoSuchElementException;
import java.util.TreeSet;

/** The public face with its exceptions, and those rules of the language that can be seen from outside. */
public final class FaceTest {
    private static final Class<?> INDEX = IndexOutOfBoundsException.class;
    private static final Class<?> ARGUMENT = IllegalArgumentException.class;
    private static final Class<?> STATE = IllegalStateException.class;
    private static final Class<?> NOTHING = NoSuchElementException.class;
    private static final int MOST_ARGUMENTS = 7;
    private static final int MOST_FIELDS = 20;
    private static final int MOST_CLASSES = 12;

    private final Check check = new Check();
    private final TreeSet<String> face = new TreeSet<>();

    /** A method of the face, all of whose arguments are of the type int. */
    private void dueMethod(Class<?> type, String name, int arguments, Class<?>... exceptions) {
        face.add(name);
        Class<?>[] parameters = new Class<?>[arguments];
        Arrays.fill(parameters, int.class);
        try {
            Method method = PixelPress.class.getDeclaredMethod(name, parameters);
            check.due(name + " is public", Modifier.PUBLIC, method::getModifiers);
            check.due(name + " answers", type, method::getReturnType);
            check.due(name + " throws", Arrays.toString(exceptions),
                    () -> Arrays.toString(method.getExceptionTypes()));
        } catch (NoSuchMethodException e) {
            check.due(name, "there", () -> "missing");
        }
    }

    private void theFaceIsThere() {
        dueMethod(int.class, "resize", 2, ARGUMENT);
        dueMethod(int.class, "set", 3, INDEX, ARGUMENT);
        dueMethod(int.class, "fill", 5, INDEX, ARGUMENT);
        dueMethod(int.class, "ramp", 3, ARGUMENT);
        dueMethod(int.class, "pixel", 2, INDEX);
        dueMethod(int.class, "width", 0);
        dueMethod(int.class, "height", 0);
        dueMethod(int.class, "setSteps", 3, ARGUMENT);
        dueMethod(boolean.class, "isLossless", 0);
        dueMethod(int.class, "encode", 0);
        dueMethod(int.class, "encodePlain", 0);
        dueMethod(int.class, "size", 0);
        dueMethod(int.class, "byteAt", 1, INDEX);
        dueMethod(int.class, "setByte", 2, INDEX, ARGUMENT);
        dueMethod(int.class, "cut", 1, ARGUMENT);
        dueMethod(int.class, "decode", 1, ARGUMENT, STATE);
        dueMethod(int.class, "decodedWidth", 0, NOTHING);
        dueMethod(int.class, "decodedHeight", 0, NOTHING);
        dueMethod(int.class, "decodedPixel", 2, NOTHING, INDEX);
        dueMethod(char.class, "fault", 1, NOTHING, INDEX);
        dueMethod(int.class, "layersUsed", 1, NOTHING, INDEX);
        dueMethod(boolean.class, "isSame", 0, NOTHING);
        dueMethod(int.class, "squaredError", 0, NOTHING, STATE);
        dueMethod(int.class, "greatestError", 0, NOTHING, STATE);
        dueMethod(int.class, "blocks", 1, NOTHING, INDEX);
        dueMethod(int.class, "blockSize", 3, NOTHING, INDEX);
        dueMethod(char.class, "mode", 3, NOTHING, INDEX);
        dueMethod(int.class, "level", 3, NOTHING, INDEX);
        dueMethod(int.class, "cost", 3, NOTHING, INDEX);
        dueMethod(int.class, "partSize", 2, NOTHING, INDEX);
        dueMethod(float.class, "ratio", 0, NOTHING);
    }

    private void nothingElseIsSeen() {
        check.due("the class", Modifier.PUBLIC | Modifier.FINAL, PixelPress.class::getModifiers);
        for (Constructor<?> constructor : PixelPress.class.getDeclaredConstructors()) {
            check.due("the constructor", Modifier.PUBLIC, constructor::getModifiers);
            check.due("its arguments", 0, constructor::getParameterCount);
        }
        TreeSet<String> seen = new TreeSet<>();
        for (Method method : PixelPress.class.getDeclaredMethods()) {
            if (!Modifier.isPrivate(method.getModifiers())) {
                seen.add(method.getName());
            } else {
                check.due(method.getName() + " is no name of the face", false, () -> face.contains(method.getName()));
            }
        }
        check.due("what is not private", face, () -> seen);
        for (Field field : PixelPress.class.getDeclaredFields()) {
            check.due(field.getName() + " is private", true, () -> Modifier.isPrivate(field.getModifiers()));
        }
    }

    private void classesStaySmall() {
        List<Class<?>> classes = new ArrayList<>(List.of(PixelPress.class.getDeclaredClasses()));
        check.due("few classes", true, () -> classes.size() < MOST_CLASSES);
        classes.add(PixelPress.class);
        for (Class<?> each : classes) {
            int fields = 0;
            for (Field field : each.getDeclaredFields()) {
                if (Modifier.isStatic(field.getModifiers())) {
                    check.due(field.getName() + " is final", true, () -> Modifier.isFinal(field.getModifiers()));
                } else {
                    fields++;
                }
            }
            int count = fields;
            check.due("the fields of " + each.getName() + " are few", true, () -> count <= MOST_FIELDS);
            for (Method method : each.getDeclaredMethods()) {
                check.due(method.getName() + " takes few arguments", true,
                        () -> method.getParameterCount() <= MOST_ARGUMENTS);
                if (each != PixelPress.class) {
                    check.due(method.getName() + " in a class inside is no name of the face", false,
                            () -> face.contains(method.getName()));
                }
            }
        }
    }

    private void theSourceUsesTheListedLibrary() throws IOException {
        List<String> lines = Files.readAllLines(Path.of("src/main/java/PixelPress.java"));
        String[] ruledOut = {"catch", "finally", "synchronized", "assert", "->", "::", "System.", "Thread", "package ",
            "Exact(", "hashCode", "toString", "Object "};
        for (int i = 0; i < lines.size(); i++) {
            String line = lines.get(i);
            int number = i + 1;
            for (String word : ruledOut) {
                check.due("line " + number + " has " + word, false, () -> line.contains(word));
            }
            boolean isImport = line.startsWith("import ");
            check.due("line " + number + " imports another class", false, () -> isImport
                    && !line.equals("import java.util.Arrays;")
                    && !line.equals("import java.util.NoSuchElementException;"));
        }
    }

    public static void main(String[] args) throws IOException {
        FaceTest test = new FaceTest();
        test.theFaceIsThere();
        test.nothingElseIsSeen();
        test.classesStaySmall();
        test.theSourceUsesTheListedLibrary();
        test.check.end();
    }
}
