import java.lang.reflect.InvocationTargetException;
import java.lang.reflect.Method;
import java.lang.reflect.Modifier;
import java.util.HashMap;
import java.util.Map;

/** Calls the methods of one object by their names, so that the class and its reference can be asked the same. */
final class Calls {
    private final Object press;
    private final Map<String, Method> methods = new HashMap<>();

    Calls(Object press) {
        this.press = press;
        for (Method method : press.getClass().getDeclaredMethods()) {
            if (!Modifier.isPrivate(method.getModifiers()) && !method.isSynthetic()) {
                method.setAccessible(true);
                methods.put(method.getName(), method);
            }
        }
    }

    /** The answer as a text, or the full name of the exception's own class. */
    String answer(String name, Object... arguments) {
        try {
            return String.valueOf(methods.get(name).invoke(press, arguments));
        } catch (InvocationTargetException e) {
            if (e.getCause() instanceof RuntimeException) {
                return "throws " + e.getCause().getClass().getName();
            }
            throw new AssertionError(name, e.getCause());
        } catch (IllegalAccessException e) {
            throw new AssertionError(name, e);
        }
    }

    int number(String name, Object... arguments) {
        return Integer.parseInt(answer(name, arguments));
    }

    /** All that the face tells of the state. */
    String state() {
        StringBuilder text = new StringBuilder();
        int width = number("width");
        int height = number("height");
        text.append("picture ").append(width).append(' ').append(height).append(' ');
        text.append(answer("isLossless")).append('\n');
        appendGrid(text, "pixel", width, height);
        int size = number("size");
        text.append("stream ").append(size).append('\n');
        for (int i = 0; i < size; i++) {
            text.append(answer("byteAt", i)).append(' ');
        }
        text.append('\n');
        appendDecoded(text);
        text.append("last coding ").append(answer("ratio")).append('\n');
        for (int layer = 0; layer < 3; layer++) {
            appendLayer(text, layer);
        }
        return text.toString();
    }

    private void appendDecoded(StringBuilder text) {
        for (String name : new String[] {"decodedWidth", "decodedHeight", "isSame", "squaredError", "greatestError"}) {
            text.append(name).append(' ').append(answer(name)).append('\n');
        }
        for (int slice = 0; slice < 4; slice++) {
            text.append(answer("fault", slice)).append(' ').append(answer("layersUsed", slice)).append('\n');
        }
        if (!answer("decodedWidth").startsWith("throws")) {
            appendGrid(text, "decodedPixel", number("decodedWidth"), number("decodedHeight"));
        }
    }

    private void appendLayer(StringBuilder text, int layer) {
        String blocks = answer("blocks", layer);
        text.append("layer ").append(layer).append(' ').append(blocks).append('\n');
        if (blocks.startsWith("throws")) {
            return;
        }
        for (int slice = 0; slice < 4; slice++) {
            text.append(answer("partSize", layer, slice)).append(' ');
        }
        text.append('\n');
        for (String name : new String[] {"blockSize", "mode", "level", "cost"}) {
            text.append(name).append('\n');
            for (int y = 0; y < 24 && !answer(name, layer, 0, y).startsWith("throws"); y++) {
                for (int x = 0; x < 16 && !answer(name, layer, x, y).startsWith("throws"); x++) {
                    text.append(answer(name, layer, x, y)).append(' ');
                }
                text.append('\n');
            }
        }
    }

    private void appendGrid(StringBuilder text, String name, int width, int height) {
        for (int y = 0; y < height; y++) {
            for (int x = 0; x < width; x++) {
                text.append(answer(name, x, y)).append(' ');
            }
            text.append('\n');
        }
    }
}
