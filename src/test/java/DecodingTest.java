import java.util.NoSuchElementException;

/** Promises 17 to 25: decoding. */
public final class DecodingTest {
    private static final String BAD_INDEX = Check.thrown(IndexOutOfBoundsException.class);
    private static final String BAD_ARGUMENT = Check.thrown(IllegalArgumentException.class);
    private static final String BAD_STATE = Check.thrown(IllegalStateException.class);
    private static final String NOTHING = Check.thrown(NoSuchElementException.class);

    private final Check check = new Check();

    /** A picture of two tiles by three slices, the last one of five rows, in three layers. */
    private static PixelPress coded() {
        PixelPress press = new PixelPress();
        press.resize(13, 21);
        press.ramp(17, 23, 101);
        press.setSteps(20, 6, 1);
        press.encode();
        return press;
    }

    private static int partStart(PixelPress press, int layer, int slice) {
        int at = 7;
        for (int part = 0; part < layer * 3 + slice; part++) {
            at += 3 + press.byteAt(at) * 256 + press.byteAt(at + 1);
        }
        return at;
    }

    private static void spoil(PixelPress press, int layer, int slice) {
        int checksum = partStart(press, layer, slice) + 2;
        press.setByte(checksum, (press.byteAt(checksum) + 1) % 251);
    }

    private static int[][] decodedPixels(PixelPress press) {
        int[][] pixels = new int[press.decodedHeight()][press.decodedWidth()];
        for (int y = 0; y < pixels.length; y++) {
            for (int x = 0; x < pixels[y].length; x++) {
                pixels[y][x] = press.decodedPixel(x, y);
            }
        }
        return pixels;
    }

    private void dueSlice(String what, PixelPress press, int slice, char fault, int layers) {
        check.due(what + ": fault of the slice " + slice, fault, () -> press.fault(slice));
        check.due(what + ": layers of the slice " + slice, layers, () -> press.layersUsed(slice));
    }

    private void dueRows(String what, PixelPress press, int slice, int[][] want) {
        for (int y = slice * 8; y < Math.min(want.length, slice * 8 + 8); y++) {
            for (int x = 0; x < want[y].length; x++) {
                int column = x;
                int row = y;
                check.due(what + ": pixel " + x + ", " + y, want[y][x], () -> press.decodedPixel(column, row));
            }
        }
    }

    private void nothingIsDecodedAtFirst() {
        PixelPress press = new PixelPress();
        press.encode();
        press.resize(5, 5);
        check.due("decodedWidth", NOTHING, press::decodedWidth);
        check.due("decodedHeight", NOTHING, press::decodedHeight);
        check.due("decodedPixel", NOTHING, () -> press.decodedPixel(0, 0));
        check.due("decodedPixel outside", NOTHING, () -> press.decodedPixel(-1, 99));
        check.due("fault", NOTHING, () -> press.fault(0));
        check.due("fault outside", NOTHING, () -> press.fault(-1));
        check.due("layersUsed", NOTHING, () -> press.layersUsed(0));
        check.due("layersUsed outside", NOTHING, () -> press.layersUsed(3));
        check.due("isSame", NOTHING, press::isSame);
        check.due("squaredError", NOTHING, press::squaredError);
        check.due("greatestError", NOTHING, press::greatestError);
    }

    private void decodeRefusesItsArgumentFirst() {
        PixelPress press = new PixelPress();
        for (int layers : new int[] {0, 4, -1, Integer.MIN_VALUE, Integer.MAX_VALUE}) {
            check.due("decode of " + layers + " without a stream", BAD_ARGUMENT, () -> press.decode(layers));
        }
        check.due("decode without a stream", BAD_STATE, () -> press.decode(3));
        press.encode();
        String before = new Calls(press).state();
        check.due("decode of 0", BAD_ARGUMENT, () -> press.decode(0));
        check.due("decode of 4", BAD_ARGUMENT, () -> press.decode(4));
        check.due("the state after it", before, () -> new Calls(press).state());
    }

    private void headersAreChecked() {
        int[][] bad = {{0, 0}, {0, 79}, {0, 81}, {0, 83}, {1, 0}, {1, 17}, {2, 0}, {2, 25}, {3, 0}, {3, 4}, {4, 0},
            {4, 33}, {5, 0}, {5, 20}, {5, 21}, {6, 0}, {6, 6}, {6, 255}};
        for (int[] change : bad) {
            PixelPress press = coded();
            press.decode(1);
            press.setByte(change[0], change[1]);
            String before = new Calls(press).state();
            check.due("decode with the byte " + change[0] + " = " + change[1], BAD_STATE, () -> press.decode(3));
            check.due("the state after it", before, () -> new Calls(press).state());
        }
        for (int size = 0; size < 7; size++) {
            PixelPress press = coded();
            press.cut(size);
            check.due("decode of " + size + " bytes", BAD_STATE, () -> press.decode(1));
        }
        PixelPress press = coded();
        press.cut(7);
        check.due("decode of a header alone", 3, () -> press.decode(1));
        dueSlice("a header alone", press, 0, 'e', 0);
        dueRows("a header alone", press, 0, new int[21][13]);
    }

    private void plainHeadersAreChecked() {
        for (int[] change : new int[][] {{1, 0}, {1, 17}, {2, 0}, {2, 25}, {0, 81}}) {
            PixelPress press = new PixelPress();
            press.encodePlain();
            press.setByte(change[0], change[1]);
            check.due("decode of plain with the byte " + change[0], BAD_STATE, () -> press.decode(1));
        }
        PixelPress press = new PixelPress();
        press.encodePlain();
        press.cut(3);
        check.due("decode of a plain header alone", 1, () -> press.decode(2));
        dueSlice("a plain header alone", press, 0, 'e', 0);
        press.cut(2);
        check.due("decode of two bytes", BAD_STATE, () -> press.decode(2));
        check.due("the height decoded before", 8, press::decodedHeight);
    }

    private void losslessStreamsGiveThePicture() {
        for (int seed = 1; seed < 40; seed++) {
            PixelPress press = new PixelPress();
            press.resize(1 + seed * 5 % 16, 1 + seed * 7 % 24);
            press.ramp(seed * 37 % 256, seed * 91 % 256, seed * 53 % 256);
            press.fill(0, 0, (press.width() + 1) / 2, (press.height() + 1) / 2, seed * 11 % 256);
            press.setSteps(seed % 3 == 0 ? 1 : 32 - seed % 13, seed % 3 == 1 ? 1 : seed % 3 * 4, seed % 3 == 2 ? 1 : 0);
            press.encode();
            check.due("decode of " + seed, 0, () -> press.decode(3));
            check.due("isSame of " + seed, true, press::isSame);
            check.due("squaredError of " + seed, 0, press::squaredError);
            check.due("greatestError of " + seed, 0, press::greatestError);
            check.due("decodedWidth of " + seed, press.width(), press::decodedWidth);
            check.due("decodedHeight of " + seed, press.height(), press::decodedHeight);
        }
    }

    private void fewerLayersGiveLess() {
        PixelPress press = coded();
        int before = Integer.MAX_VALUE;
        for (int layers = 1; layers <= 3; layers++) {
            int asked = layers;
            check.due("decode of " + layers, 0, () -> press.decode(asked));
            for (int slice = 0; slice < 3; slice++) {
                dueSlice("decode of " + layers, press, slice, 'n', layers);
            }
            int error = press.squaredError();
            int last = before;
            check.due("each layer makes the error less", true, () -> error < last);
            before = error;
        }
        check.due("isSame of all", true, press::isSame);
        PixelPress one = new PixelPress();
        one.encode();
        one.decode(3);
        dueSlice("three layers asked of one", one, 0, 'n', 1);
    }

    private void damageStaysInItsSlice() {
        PixelPress press = coded();
        press.decode(1);
        int[][] ofOne = decodedPixels(press);
        press.decode(3);
        int[][] ofThree = decodedPixels(press);
        spoil(press, 1, 1);
        check.due("decode with a wrong part", 1, () -> press.decode(3));
        dueSlice("a wrong part", press, 0, 'n', 3);
        dueSlice("a wrong part", press, 1, 's', 1);
        dueSlice("a wrong part", press, 2, 'n', 3);
        dueRows("a wrong part", press, 0, ofThree);
        dueRows("a wrong part", press, 1, ofOne);
        dueRows("a wrong part", press, 2, ofThree);
        check.due("decode of the layer ahead of it", 0, () -> press.decode(1));
        dueSlice("the layer ahead of it", press, 1, 'n', 1);
        spoil(press, 0, 2);
        check.due("decode with two wrong parts", 2, () -> press.decode(2));
        dueSlice("two wrong parts", press, 2, 's', 0);
        dueRows("two wrong parts", press, 2, new int[21][13]);
    }

    private void checksumsAboveTheRemaindersAreWrong() {
        PixelPress press = new PixelPress();
        press.encode();
        for (int value = 0; value < 256; value++) {
            press.setByte(7, value);
            check.due("decode with the checksum " + value, value == 32 ? 0 : 1, () -> press.decode(1));
        }
    }

    private void cutPartsAreCutWithAllBehind() {
        PixelPress press = coded();
        press.decode(1);
        int[][] ofOne = decodedPixels(press);
        press.decode(2);
        int[][] ofTwo = decodedPixels(press);
        spoil(press, 0, 1);
        int end = partStart(press, 1, 1);
        press.cut(end - 1);
        check.due("decode of one layer", 1, () -> press.decode(1));
        dueSlice("one layer", press, 0, 'n', 1);
        dueSlice("one layer", press, 1, 's', 0);
        dueSlice("one layer", press, 2, 'n', 1);
        check.due("decode without the last byte of a part", 3, () -> press.decode(2));
        dueSlice("without the last byte", press, 0, 'e', 1);
        dueSlice("without the last byte", press, 1, 's', 0);
        dueSlice("without the last byte", press, 2, 'e', 1);
        dueRows("without the last byte", press, 0, ofOne);
        dueRows("without the last byte", press, 2, ofOne);
        PixelPress whole = coded();
        whole.cut(end + 2);
        check.due("decode without a whole checksum", 2, () -> whole.decode(2));
        dueSlice("without a whole checksum", whole, 0, 'n', 2);
        dueSlice("without a whole checksum", whole, 1, 'e', 1);
        dueRows("without a whole checksum", whole, 0, ofTwo);
        dueRows("without a whole checksum", whole, 1, ofOne);
    }

    private void aWrongSizeMayCutAllBehind() {
        PixelPress press = coded();
        int at = partStart(press, 0, 1);
        press.setByte(at, 255);
        check.due("decode with a part that is too large", 3, () -> press.decode(3));
        dueSlice("a part that is too large", press, 0, 'e', 1);
        dueSlice("a part that is too large", press, 1, 'e', 0);
        dueSlice("a part that is too large", press, 2, 'e', 0);
        check.due("decode of its first layer", 2, () -> press.decode(1));
        dueSlice("its first layer", press, 0, 'n', 1);
    }

    private void anEmptyPartReadsAsZeros() {
        PixelPress press = new PixelPress();
        press.resize(3, 2);
        press.encode();
        press.setByte(5, 0);
        press.setByte(6, 0);
        press.setByte(7, 0);
        press.cut(8);
        press.set(0, 0, 9);
        check.due("decode", 0, () -> press.decode(1));
        dueSlice("an empty part", press, 0, 'n', 1);
        dueRows("an empty part", press, 0, new int[2][3]);
        check.due("greatestError", 9, press::greatestError);
        press.setByte(7, 1);
        check.due("decode with another checksum", 1, () -> press.decode(1));
        dueSlice("another checksum", press, 0, 's', 0);
        press.cut(7);
        check.due("decode without a checksum", 1, () -> press.decode(1));
        dueSlice("no checksum", press, 0, 'e', 0);
    }

    private void bitsBehindAPartAreZeros() {
        PixelPress press = new PixelPress();
        press.encode();
        press.setByte(6, 0);
        press.setByte(7, 0);
        press.setByte(8, 255);
        press.setByte(9, 255);
        press.set(0, 0, 9);
        check.due("decode of an empty part ahead of further bytes", 0, () -> press.decode(1));
        dueRows("an empty part ahead of further bytes", press, 0, new int[8][8]);
        press.setByte(6, 1);
        press.setByte(8, 0);
        check.due("decode of one zero byte ahead of a further one", 0, () -> press.decode(1));
        dueRows("one zero byte ahead of a further one", press, 0, new int[8][8]);
    }

    private void partsMayHaveMoreThan255Bytes() {
        PixelPress press = new PixelPress();
        press.resize(16, 24);
        press.encodePlain();
        for (int index = 3; index < 387; index++) {
            press.setByte(index, 0);
        }
        int[] front = {80, 8, 16, 1, 1, 1, 2, 0};
        for (int index = 0; index < front.length; index++) {
            press.setByte(index, front[index]);
        }
        press.setByte(8 + 256, 2);
        press.setByte(8 + 257, 3);
        press.setByte(7, (257 * 2 + 258 * 3) % 251);
        check.due("decode of a part of 258 bytes and an empty one", 0, () -> press.decode(1));
        dueSlice("a part of 258 bytes", press, 0, 'n', 1);
        dueSlice("the empty part behind it", press, 1, 'n', 1);
        press.setByte(8 + 258 + 2, 1);
        check.due("decode with a wrong empty part", 1, () -> press.decode(1));
        dueSlice("a wrong empty part", press, 1, 's', 0);
        press.cut(8 + 258 + 2);
        check.due("decode with a cut empty part", 1, () -> press.decode(1));
        dueSlice("a cut empty part", press, 1, 'e', 0);
        press.cut(8 + 257);
        check.due("decode with a cut part of 258 bytes", 2, () -> press.decode(1));
        dueSlice("a cut part of 258 bytes", press, 0, 'e', 0);
    }

    private void sumsAreClamped() {
        PixelPress press = new PixelPress();
        press.fill(0, 0, 8, 8, 200);
        press.encode();
        press.setByte(4, 2);
        press.decode(1);
        check.due("twice 200", 255, () -> press.decodedPixel(3, 3));
        check.due("greatestError", 55, press::greatestError);
        check.due("squaredError", 64 * 55 * 55, press::squaredError);
        PixelPress low = new PixelPress();
        low.set(0, 0, 255);
        low.encode();
        low.setByte(4, 32);
        low.decode(1);
        int least = 255;
        for (int[] row : decodedPixels(low)) {
            for (int value : row) {
                least = Math.min(least, value);
                check.due("a pixel is a byte", true, () -> value >= 0 && value <= 255);
            }
        }
        int found = least;
        check.due("the least pixel", 0, () -> found);
    }

    private void plainSlicesAreWholeOrCut() {
        PixelPress press = new PixelPress();
        press.resize(5, 18);
        press.fill(0, 0, 5, 18, 77);
        press.encodePlain();
        check.due("decode of plain", 0, () -> press.decode(2));
        check.due("isSame of plain", true, press::isSame);
        dueSlice("plain", press, 2, 'n', 1);
        press.cut(3 + 5 * 18 - 1);
        check.due("decode without the last pixel", 1, () -> press.decode(1));
        dueSlice("without the last pixel", press, 1, 'n', 1);
        dueSlice("without the last pixel", press, 2, 'e', 0);
        check.due("a pixel of the cut slice", 0, () -> press.decodedPixel(0, 16));
        check.due("a pixel of the whole slice", 77, () -> press.decodedPixel(4, 15));
        press.cut(3 + 5 * 8);
        check.due("decode of one slice", 2, () -> press.decode(3));
        dueSlice("one slice", press, 0, 'n', 1);
        dueSlice("one slice", press, 1, 'e', 0);
        press.cut(3 + 5 * 8 - 1);
        check.due("decode of none", 3, () -> press.decode(3));
        check.due("squaredError of zeros", 90 * 77 * 77, press::squaredError);
    }

    private void furtherBytesHaveNoMeaning() {
        PixelPress press = new PixelPress();
        press.resize(9, 17);
        press.ramp(5, 6, 7);
        press.encode();
        press.setByte(2, 16);
        check.due("decode without the last slice", 0, () -> press.decode(1));
        check.due("decodedHeight", 16, press::decodedHeight);
        check.due("a pixel", 5 + 6 * 8 + 7 * 15, () -> press.decodedPixel(8, 15));
        check.due("no such slice", BAD_INDEX, () -> press.fault(2));
        press.encodePlain();
        press.setByte(2, 1);
        check.due("decode of a plain row", 0, () -> press.decode(1));
        check.due("decodedHeight of plain", 1, press::decodedHeight);
        check.due("a pixel of plain", 5 + 6 * 8, () -> press.decodedPixel(8, 0));
    }

    private void whatIsOutsideIsRefused() {
        PixelPress press = coded();
        press.decode(2);
        String before = new Calls(press).state();
        int[][] places = {{13, 0}, {0, 21}, {-1, 0}, {0, -1}, {15, 23}, {Integer.MAX_VALUE, Integer.MIN_VALUE}};
        for (int[] place : places) {
            check.due("decodedPixel outside", BAD_INDEX, () -> press.decodedPixel(place[0], place[1]));
        }
        for (int slice : new int[] {-1, 3, Integer.MIN_VALUE, Integer.MAX_VALUE}) {
            check.due("fault of " + slice, BAD_INDEX, () -> press.fault(slice));
            check.due("layersUsed of " + slice, BAD_INDEX, () -> press.layersUsed(slice));
        }
        check.due("the state after it", before, () -> new Calls(press).state());
        PixelPress flat = new PixelPress();
        flat.encode();
        flat.decode(1);
        check.due("fault of a slice that 8 rows do not have", BAD_INDEX, () -> flat.fault(1));
        check.due("layersUsed of it", BAD_INDEX, () -> flat.layersUsed(1));
    }

    private void errorsCompareWithThePictureOfNow() {
        PixelPress press = new PixelPress();
        press.resize(4, 3);
        press.encodePlain();
        press.decode(1);
        press.set(1, 1, 3);
        press.set(3, 2, 10);
        check.due("isSame", false, press::isSame);
        check.due("squaredError", 109, press::squaredError);
        check.due("greatestError", 10, press::greatestError);
        press.fill(0, 0, 4, 3, 255);
        check.due("the greatest squaredError", 12 * 255 * 255, press::squaredError);
        press.encodePlain();
        press.decode(1);
        press.fill(0, 0, 4, 3, 0);
        check.due("greatestError the other way", 255, press::greatestError);
        for (int[] size : new int[][] {{3, 4}, {4, 4}, {5, 3}, {12, 1}}) {
            press.resize(size[0], size[1]);
            check.due("isSame of another size", false, press::isSame);
            check.due("squaredError of another size", BAD_STATE, press::squaredError);
            check.due("greatestError of another size", BAD_STATE, press::greatestError);
        }
        check.due("decodedWidth after it", 4, press::decodedWidth);
        check.due("decodedHeight after it", 3, press::decodedHeight);
        check.due("decodedPixel after it", 255, () -> press.decodedPixel(3, 2));
    }

    private void theDecodedPictureStaysUntilTheNextDecode() {
        PixelPress press = new PixelPress();
        press.fill(0, 0, 8, 8, 50);
        press.encode();
        press.decode(1);
        press.resize(2, 2);
        press.encodePlain();
        press.cut(1);
        check.due("decodedPixel", 50, () -> press.decodedPixel(7, 7));
        check.due("decode of one byte", BAD_STATE, () -> press.decode(1));
        check.due("decodedWidth", 8, press::decodedWidth);
        press.encode();
        press.decode(1);
        check.due("decodedWidth after the next", 2, press::decodedWidth);
        check.due("decodedPixel after the next", BAD_INDEX, () -> press.decodedPixel(7, 7));
    }

    public static void main(String[] args) {
        DecodingTest test = new DecodingTest();
        test.nothingIsDecodedAtFirst();
        test.decodeRefusesItsArgumentFirst();
        test.headersAreChecked();
        test.plainHeadersAreChecked();
        test.losslessStreamsGiveThePicture();
        test.fewerLayersGiveLess();
        test.damageStaysInItsSlice();
        test.checksumsAboveTheRemaindersAreWrong();
        test.cutPartsAreCutWithAllBehind();
        test.aWrongSizeMayCutAllBehind();
        test.anEmptyPartReadsAsZeros();
        test.bitsBehindAPartAreZeros();
        test.partsMayHaveMoreThan255Bytes();
        test.sumsAreClamped();
        test.plainSlicesAreWholeOrCut();
        test.furtherBytesHaveNoMeaning();
        test.whatIsOutsideIsRefused();
        test.errorsCompareWithThePictureOfNow();
        test.theDecodedPictureStaysUntilTheNextDecode();
        test.check.end();
    }
}
