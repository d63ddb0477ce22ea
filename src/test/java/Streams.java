import java.util.ArrayList;
import java.util.List;

/** Makes streams of bytes that a test has chosen, and pictures to code. */
final class Streams {
    private Streams() {
    }

    /** A new object whose stream has these bytes. */
    static PixelPress press(int... bytes) {
        PixelPress press = new PixelPress();
        press.resize(16, 24);
        press.encodePlain();
        for (int i = 0; i < bytes.length; i++) {
            press.setByte(i, bytes[i]);
        }
        press.cut(bytes.length);
        return press;
    }

    /** The bytes of a coded stream; its parts get their sizes and checksums here. */
    static int[] coded(int width, int height, int[] steps, int[]... parts) {
        List<Integer> bytes = new ArrayList<>(List.of(80, width, height, steps.length));
        for (int step : steps) {
            bytes.add(step);
        }
        for (int[] part : parts) {
            bytes.add(part.length / 256);
            bytes.add(part.length % 256);
            bytes.add(checksum(part));
            for (int value : part) {
                bytes.add(value);
            }
        }
        return bytes.stream().mapToInt(Integer::intValue).toArray();
    }

    static int checksum(int... part) {
        long sum = 0;
        for (int i = 0; i < part.length; i++) {
            sum += (i + 1L) * part[i];
        }
        return (int) (sum % 251);
    }

    /** The greatest picture, full of noise that is the same each time. */
    static void paintNoise(PixelPress press) {
        press.resize(16, 24);
        int state = 1;
        for (int i = 0; i < 384; i++) {
            state = (state * 1103 + 12345) % 65536;
            press.set(i % 16, i / 16, state / 256);
        }
    }

    /** Where a part begins, of a stream of three layers. */
    static int partStart(PixelPress press, int part) {
        int at = 7;
        for (int before = 0; before < part; before++) {
            at += 3 + press.byteAt(at) * 256 + press.byteAt(at + 1);
        }
        return at;
    }
}
