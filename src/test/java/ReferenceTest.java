import java.util.Arrays;
import java.util.Random;

/**
 * Asks the class and the reference the same, in runs that are drawn from fixed seeds. Damaged parts get right
 * checksums now and then, so that the decoder meets bits that no coder would write.
 */
public final class ReferenceTest {
    private static final int RUNS = 250;
    private static final int STEPS_OF_A_RUN = 40;

    private final Random random;
    private final Calls real = new Calls(new PixelPress());
    private final Calls wanted = new Calls(new ReferencePress());
    private final StringBuilder history = new StringBuilder();

    private ReferenceTest(long seed) {
        random = new Random(seed);
    }

    private int both(String name, Object... arguments) {
        String got = real.answer(name, arguments);
        String want = wanted.answer(name, arguments);
        history.append(name).append(Arrays.toString(arguments)).append(" = ").append(want).append('\n');
        if (!got.equals(want)) {
            throw new AssertionError(name + " answered " + got + ", due is " + want);
        }
        return want.startsWith("throws") || !Character.isDigit(want.charAt(0)) || want.contains(".")
                ? -1 : Integer.parseInt(want);
    }

    /** A number of the range, or at times one at or behind its edges. */
    private int near(int least, int most) {
        return switch (random.nextInt(20)) {
            case 0 -> least - 1;
            case 1 -> most + 1;
            case 2 -> least;
            case 3 -> most;
            case 4 -> random.nextBoolean() ? Integer.MIN_VALUE : Integer.MAX_VALUE;
            default -> least + random.nextInt(most - least + 1);
        };
    }

    private void paint() {
        int width = wanted.number("width");
        int height = wanted.number("height");
        int range = 1 + random.nextInt(256);
        switch (random.nextInt(6)) {
            case 0 -> both("ramp", near(0, 255), near(0, 255), near(0, 255));
            case 1 -> both("fill", near(0, width - 1), near(0, height - 1), near(1, width), near(1, height),
                    near(0, 255));
            case 2 -> both("set", near(0, width - 1), near(0, height - 1), near(0, 255));
            case 3 -> {
                for (int i = 0; i < width * height; i++) {
                    both("set", i % width, i / width, random.nextInt(range));
                }
            }
            case 4 -> {
                for (int i = 0; i < width * height; i++) {
                    both("set", i % width, i / width, random.nextBoolean() ? 255 : 0);
                }
            }
            default -> {
                for (int i = 0; i < 4; i++) {
                    int x = random.nextInt(width);
                    int y = random.nextInt(height);
                    both("fill", x, y, 1 + random.nextInt(width - x), 1 + random.nextInt(height - y),
                            random.nextInt(range));
                }
            }
        }
    }

    private void settle() {
        switch (random.nextInt(4)) {
            case 0 -> both("setSteps", near(1, 32), near(0, 32), near(0, 32));
            case 1 -> both("setSteps", 1 + random.nextInt(32), 0, 0);
            case 2 -> {
                int first = 2 + random.nextInt(31);
                both("setSteps", first, 1 + random.nextInt(first - 1), 0);
            }
            default -> {
                int first = 3 + random.nextInt(30);
                int second = 2 + random.nextInt(first - 2);
                both("setSteps", first, second, 1 + random.nextInt(second - 1));
            }
        }
    }

    private void damage() {
        int size = wanted.number("size");
        switch (random.nextInt(9)) {
            case 0 -> both("cut", near(0, size));
            case 1 -> both("cut", Math.max(0, size - random.nextInt(20)));
            case 2 -> both("setByte", near(0, 6), near(0, 32));
            case 3 -> both("setByte", near(0, Math.max(0, size - 1)), near(0, 255));
            case 4 -> {
                if (size > 8) {
                    both("setByte", 1, 1 + random.nextInt(16));
                    both("setByte", 2, 1 + random.nextInt(24));
                    repairChecksums();
                }
            }
            case 5 -> {
                // A part that ends ahead of bytes of its own, or is as large as no coder makes one.
                if (size > 10) {
                    int at = 4 + wanted.number("byteAt", 3);
                    both("setByte", at, random.nextInt(2));
                    both("setByte", at + 1, random.nextInt(12));
                    repairChecksums();
                }
            }
            default -> {
                for (int i = 0; i < 1 + size / 10; i++) {
                    both("setByte", near(Math.min(7, Math.max(0, size - 1)), Math.max(0, size - 1)), near(0, 255));
                }
                repairChecksums();
            }
        }
    }

    private void repairChecksums() {
        int size = wanted.number("size");
        if (size < 5 || wanted.number("byteAt", 0) != 80) {
            return;
        }
        int at = 4 + wanted.number("byteAt", 3);
        while (at + 3 <= size) {
            int count = wanted.number("byteAt", at) * 256 + wanted.number("byteAt", at + 1);
            if (at + 3 + count > size) {
                // Now and then the part is made to end with the stream instead.
                if (random.nextBoolean()) {
                    return;
                }
                count = size - at - 3;
                both("setByte", at, count / 256);
                both("setByte", at + 1, count % 256);
            }
            long sum = 0;
            for (int i = 0; i < count; i++) {
                sum += (i + 1L) * wanted.number("byteAt", at + 3 + i);
            }
            if (random.nextInt(8) > 0) {
                both("setByte", at + 2, (int) (sum % 251));
            }
            at += 3 + count;
        }
    }

    private void ask() {
        both("pixel", near(0, 15), near(0, 23));
        both("byteAt", near(0, Math.max(0, wanted.number("size") - 1)));
        both("decodedPixel", near(0, 15), near(0, 23));
        both("fault", near(0, 2));
        both("layersUsed", near(0, 2));
        both("blocks", near(0, 2));
        both("blockSize", near(0, 2), near(0, 15), near(0, 23));
        both("mode", near(0, 2), near(0, 15), near(0, 23));
        both("level", near(0, 2), near(0, 15), near(0, 23));
        both("cost", near(0, 2), near(0, 15), near(0, 23));
        both("partSize", near(0, 2), near(0, 2));
    }

    private void step() {
        switch (random.nextInt(12)) {
            case 0 -> both("resize", near(1, 16), near(1, 24));
            case 1, 2, 3 -> paint();
            case 4 -> settle();
            case 5, 6 -> both("encode");
            case 7 -> both(random.nextInt(3) == 0 ? "encodePlain" : "encode");
            case 8 -> damage();
            case 9 -> ask();
            default -> both("decode", near(1, 3));
        }
    }

    private void compareStates() {
        String got = real.state();
        String want = wanted.state();
        if (!got.equals(want)) {
            System.out.println("the state is\n" + got + "\ndue is\n" + want);
            throw new AssertionError("the states differ");
        }
    }

    private boolean run(long seed) {
        try {
            compareStates();
            for (int i = 0; i < STEPS_OF_A_RUN; i++) {
                step();
                compareStates();
            }
            return true;
        } catch (AssertionError e) {
            System.out.println("seed " + seed + ", after\n" + history + "\n" + e.getMessage());
            return false;
        }
    }

    public static void main(String[] args) {
        int first = args.length > 0 ? Integer.parseInt(args[0]) : 0;
        int runs = args.length > 1 ? Integer.parseInt(args[1]) : RUNS;
        for (int seed = first; seed < first + runs; seed++) {
            if (!new ReferenceTest(seed).run(seed)) {
                System.exit(1);
            }
        }
    }
}
