import java.util.NoSuchElementException;

/** Promises 26 to 32: the last coding. */
public final class LastCodingTest {
    private static final String BAD_INDEX = Check.thrown(IndexOutOfBoundsException.class);
    private static final String NOTHING = Check.thrown(NoSuchElementException.class);

    private final Check check = new Check();

    private void dueNothing(String what, PixelPress press) {
        check.due(what + ": blocks", NOTHING, () -> press.blocks(0));
        check.due(what + ": blocks of no layer", NOTHING, () -> press.blocks(-1));
        check.due(what + ": blockSize", NOTHING, () -> press.blockSize(0, 0, 0));
        check.due(what + ": blockSize outside", NOTHING, () -> press.blockSize(3, -1, 99));
        check.due(what + ": mode", NOTHING, () -> press.mode(0, 0, 0));
        check.due(what + ": mode outside", NOTHING, () -> press.mode(0, 16, 0));
        check.due(what + ": level", NOTHING, () -> press.level(0, 0, 0));
        check.due(what + ": level outside", NOTHING, () -> press.level(0, 0, 24));
        check.due(what + ": cost", NOTHING, () -> press.cost(0, 0, 0));
        check.due(what + ": cost outside", NOTHING, () -> press.cost(-1, 0, 0));
        check.due(what + ": partSize", NOTHING, () -> press.partSize(0, 0));
        check.due(what + ": partSize outside", NOTHING, () -> press.partSize(0, 3));
    }

    private void nothingIsToldWithoutACoding() {
        PixelPress press = new PixelPress();
        dueNothing("a new object", press);
        check.due("ratio of a new object", NOTHING, press::ratio);
        press.encode();
        press.encodePlain();
        dueNothing("after a plain stream", press);
        check.due("ratio of a plain stream", 1.0f, press::ratio);
        press.encode();
        check.due("blocks after the next coding", 1, () -> press.blocks(0));
    }

    private void anEmptyPictureIsOneBlock() {
        PixelPress press = new PixelPress();
        press.encode();
        check.due("blocks", 1, () -> press.blocks(0));
        check.due("blockSize", 8, () -> press.blockSize(0, 7, 7));
        check.due("mode", 'd', () -> press.mode(0, 7, 7));
        check.due("level", 0, () -> press.level(0, 7, 7));
        check.due("cost", 4, () -> press.cost(0, 7, 7));
        check.due("partSize", 2, () -> press.partSize(0, 0));
        check.due("ratio", 10f / 67f, press::ratio);
    }

    private void aFlatPictureIsPredictedFromTheLeft() {
        PixelPress press = new PixelPress();
        press.resize(16, 24);
        press.fill(0, 0, 16, 24, 200);
        press.encode();
        check.due("blocks", 6, () -> press.blocks(0));
        for (int y = 0; y < 24; y += 4) {
            int row = y;
            check.due("mode of the left tile", 'd', () -> press.mode(0, 0, row));
            check.due("mode of the right tile", 'h', () -> press.mode(0, 15, row));
            check.due("level of the left tile", row % 8 == 0 ? 200 : 0, () -> press.level(0, 0, row));
            check.due("level of the right tile", 0, () -> press.level(0, 8, row));
            check.due("cost of the left tile", 4 + 2 * 8, () -> press.cost(0, 7, row));
            check.due("cost of the right tile", 4, () -> press.cost(0, 8, row));
        }
    }

    private void oneSpotStaysOneBlock() {
        PixelPress press = new PixelPress();
        press.set(0, 0, 4);
        press.encode();
        // As four blocks the upper left one costs 20, too, and each other one 4.
        check.due("blocks", 1, () -> press.blocks(0));
        check.due("blockSize", 8, () -> press.blockSize(0, 0, 0));
        check.due("cost", 4 + 2 * (2 + 2 + 3 + 1), () -> press.cost(0, 7, 7));
        check.due("mode", 'd', () -> press.mode(0, 0, 0));
        int[][] wanted = new int[8][8];
        wanted[0][4] = 2;
        wanted[4][0] = 2;
        wanted[4][4] = 4;
        wanted[2][2] = 1;
        for (int i = 0; i < 64; i++) {
            int x = i % 8;
            int y = i / 8;
            check.due("level " + x + ", " + y, wanted[y][x], () -> press.level(0, x, y));
        }
    }

    private void oneQuarterDividesItsTile() {
        PixelPress press = new PixelPress();
        press.fill(0, 0, 4, 4, 255);
        press.encode();
        // As one block it costs 60. The other quarters see 255 on one side, and take their mode from the other.
        int[][] corners = {{0, 0, 'd', 255, 20}, {4, 0, 'v', 0, 4}, {0, 4, 'h', 0, 4}, {4, 4, 'd', 0, 4}};
        check.due("blocks", 4, () -> press.blocks(0));
        for (int[] corner : corners) {
            int x = corner[0];
            int y = corner[1];
            check.due("blockSize", 4, () -> press.blockSize(0, x + 3, y + 3));
            check.due("mode", (char) corner[2], () -> press.mode(0, x + 3, y));
            check.due("level", corner[3], () -> press.level(0, x, y));
            check.due("the level beside it", 0, () -> press.level(0, x + 1, y));
            check.due("cost", corner[4], () -> press.cost(0, x, y + 3));
        }
    }

    private static int digits(int value) {
        return value == 0 ? 0 : Integer.toBinaryString(Math.abs(value)).length();
    }

    private static PixelPress codedOfTenByNine() {
        PixelPress press = new PixelPress();
        press.resize(10, 9);
        press.ramp(3, 5, 7);
        press.set(9, 8, 255);
        press.fill(2, 2, 4, 4, 0);
        press.setSteps(8, 3, 1);
        press.encode();
        return press;
    }

    private void knownCoding() {
        PixelPress press = codedOfTenByNine();
        check.due("blocks of the layer 0", 7, () -> press.blocks(0));
        check.due("blocks of the layer 1", 13, () -> press.blocks(1));
        check.due("blockSize", 8, () -> press.blockSize(0, 3, 3));
        check.due("mode", 'd', () -> press.mode(0, 3, 3));
        check.due("level at the front", 4, () -> press.level(0, 0, 0));
        check.due("level at the end", -9, () -> press.level(0, 9, 8));
        check.due("level at the end of the last layer", -1, () -> press.level(2, 9, 8));
        check.due("cost", 66, () -> press.cost(0, 3, 3));
        check.due("partSize", 15, () -> press.partSize(2, 1));
        check.due("ratio", 136f / 93f, press::ratio);
    }

    /** What the calls tell of one layer must fit together, in a picture without columns or rows behind it. */
    private void dueConsistentLayer(PixelPress press, int layer, int width, int height) {
        int blocks = 0;
        for (int y = 0; y < height; y += 4) {
            for (int x = 0; x < width; x += 4) {
                int size = press.blockSize(layer, x, y);
                if (x % size == 0 && y % size == 0) {
                    blocks++;
                    dueConsistentBlock(press, layer, x, y, size);
                }
            }
        }
        int counted = blocks;
        check.due("blocks of the layer " + layer, counted, () -> press.blocks(layer));
    }

    private void dueConsistentBlock(PixelPress press, int layer, int x, int y, int size) {
        int sum = 4;
        for (int i = 0; i < size * size; i++) {
            sum += 2 * digits(press.level(layer, x + i % size, y + i / size));
        }
        int cost = sum;
        char mode = press.mode(layer, x, y);
        for (int i = 0; i < size * size; i++) {
            int column = x + i % size;
            int row = y + i / size;
            check.due("cost of a block", cost, () -> press.cost(layer, column, row));
            check.due("mode of a block", mode, () -> press.mode(layer, column, row));
            check.due("size of a block", size, () -> press.blockSize(layer, column, row));
        }
    }

    private void answersFitTogether() {
        StringBuilder modes = new StringBuilder();
        StringBuilder sizes = new StringBuilder();
        for (int seed = 0; seed < 30; seed++) {
            PixelPress press = new PixelPress();
            press.resize(16, 24);
            press.ramp(seed * 17 % 256, seed * 29 % 256, seed * 71 % 256);
            press.fill(seed % 8, seed % 9, 5, 6, 255 - seed);
            press.setSteps(25, 9, 1);
            press.encode();
            for (int layer = 0; layer < 3; layer++) {
                dueConsistentLayer(press, layer, 16, 24);
                for (int i = 0; i < 24; i++) {
                    modes.append(press.mode(layer, i % 4 * 4, i / 4 * 4));
                    sizes.append(press.blockSize(layer, i % 4 * 4, i / 4 * 4));
                }
            }
        }
        for (char mode : "dhva".toCharArray()) {
            check.due("the mode " + mode + " occurs", true, () -> modes.indexOf(String.valueOf(mode)) >= 0);
        }
        check.due("both sizes occur", true, () -> sizes.indexOf("4") >= 0 && sizes.indexOf("8") >= 0);
    }

    private void partSizesFillTheStream() {
        PixelPress press = codedOfTenByNine();
        int sum = 7;
        for (int layer = 0; layer < 3; layer++) {
            for (int slice = 0; slice < 2; slice++) {
                sum += 3 + press.partSize(layer, slice);
            }
        }
        int all = sum;
        check.due("size", all, press::size);
    }

    private void whatIsOutsideIsRefused() {
        PixelPress press = codedOfTenByNine();
        String before = new Calls(press).state();
        for (int layer : new int[] {-1, 3, Integer.MIN_VALUE, Integer.MAX_VALUE}) {
            check.due("blocks of " + layer, BAD_INDEX, () -> press.blocks(layer));
            check.due("blockSize of " + layer, BAD_INDEX, () -> press.blockSize(layer, 0, 0));
            check.due("mode of " + layer, BAD_INDEX, () -> press.mode(layer, 0, 0));
            check.due("level of " + layer, BAD_INDEX, () -> press.level(layer, 0, 0));
            check.due("cost of " + layer, BAD_INDEX, () -> press.cost(layer, 0, 0));
            check.due("partSize of " + layer, BAD_INDEX, () -> press.partSize(layer, 0));
        }
        int[][] places = {{10, 0}, {0, 9}, {-1, 0}, {0, -1}, {15, 8}, {9, 15}, {Integer.MAX_VALUE, 0},
            {0, Integer.MIN_VALUE}};
        for (int[] place : places) {
            check.due("blockSize outside", BAD_INDEX, () -> press.blockSize(0, place[0], place[1]));
            check.due("mode outside", BAD_INDEX, () -> press.mode(0, place[0], place[1]));
            check.due("level outside", BAD_INDEX, () -> press.level(0, place[0], place[1]));
            check.due("cost outside", BAD_INDEX, () -> press.cost(0, place[0], place[1]));
        }
        for (int slice : new int[] {-1, 2, 3, Integer.MIN_VALUE, Integer.MAX_VALUE}) {
            check.due("partSize of the slice " + slice, BAD_INDEX, () -> press.partSize(0, slice));
        }
        check.due("the state after it", before, () -> new Calls(press).state());
        press.setSteps(5, 0, 0);
        press.encode();
        check.due("blocks of a layer that is no more", BAD_INDEX, () -> press.blocks(1));
        check.due("level of a layer that is no more", BAD_INDEX, () -> press.level(1, 0, 0));
        check.due("partSize of a layer that is no more", BAD_INDEX, () -> press.partSize(1, 0));
    }

    private void onlyTheNextCodingChangesTheAnswers() {
        PixelPress press = codedOfTenByNine();
        press.resize(16, 24);
        press.setSteps(1, 0, 0);
        press.setByte(9, 1);
        press.cut(20);
        press.decode(3);
        check.due("blocks", 13, () -> press.blocks(1));
        check.due("level", -1, () -> press.level(2, 9, 8));
        check.due("no such pixel in the coded picture", BAD_INDEX, () -> press.level(2, 10, 8));
        check.due("mode", 'd', () -> press.mode(0, 3, 3));
        check.due("cost", 66, () -> press.cost(0, 3, 3));
        check.due("partSize", 15, () -> press.partSize(2, 1));
        check.due("no such slice in the coded picture", BAD_INDEX, () -> press.partSize(2, 2));
        check.due("ratio", 136f / 93f, press::ratio);
    }

    public static void main(String[] args) {
        LastCodingTest test = new LastCodingTest();
        test.nothingIsToldWithoutACoding();
        test.anEmptyPictureIsOneBlock();
        test.aFlatPictureIsPredictedFromTheLeft();
        test.oneSpotStaysOneBlock();
        test.oneQuarterDividesItsTile();
        test.knownCoding();
        test.answersFitTogether();
        test.partSizesFillTheStream();
        test.whatIsOutsideIsRefused();
        test.onlyTheNextCodingChangesTheAnswers();
        test.check.end();
    }
}
