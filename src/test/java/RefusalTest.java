import java.util.Arrays;
import java.util.NoSuchElementException;
import java.util.function.Supplier;

/**
 * Each call that the document refuses: the first exception of those that apply, and that nothing is changed by it. An
 * object that was refused a call is compared with a twin that was not, then once more after both have coded, since
 * the steps show there alone.
 */
public final class RefusalTest {
    private static final String INDEX = Check.thrown(IndexOutOfBoundsException.class);
    private static final String ARGUMENT = Check.thrown(IllegalArgumentException.class);
    private static final String STATE = Check.thrown(IllegalStateException.class);
    private static final String NOTHING = Check.thrown(NoSuchElementException.class);
    private static final int LEAST = Integer.MIN_VALUE;
    private static final int MOST = Integer.MAX_VALUE;
    private static final int[] NO_BYTES = {-1, 256, LEAST, MOST};
    /** No pixels of a picture of 9 by 10, some of which are at places of the row behind or of the extended picture. */
    private static final int[][] NO_PIXELS = {{-1, 0}, {9, 0}, {0, -1}, {0, 10}, {-1, -1}, {9, 10}, {15, 0}, {16, 0},
        {0, 15}, {0, 16}, {0, 24}, {-1, 1}, {LEAST, 0}, {MOST, 0}, {0, LEAST}, {0, MOST}};

    private static final String[] ASKED_OF_PIXELS = {"blockSize", "mode", "level", "cost"};

    private final Check check = new Check();

    // ---- the objects that are asked ----

    private static PixelPress coded() {
        PixelPress press = new PixelPress();
        press.resize(9, 10);
        press.ramp(17, 23, 101);
        press.setSteps(20, 6, 3);
        press.encode();
        press.decode(2);
        press.set(4, 4, 1);
        return press;
    }

    private static PixelPress plain() {
        PixelPress press = coded();
        press.encodePlain();
        return press;
    }

    /** Its picture has another size than the decoded one and the one that was coded. */
    private static PixelPress resized(int width, int height) {
        PixelPress press = coded();
        press.resize(width, height);
        return press;
    }

    private static PixelPress changed(int index, int value) {
        PixelPress press = coded();
        press.setByte(index, value);
        return press;
    }

    private static PixelPress shortened(int size) {
        PixelPress press = coded();
        press.cut(size);
        return press;
    }

    private void refused(Supplier<PixelPress> maker, String exception, String name, Object... arguments) {
        Calls press = new Calls(maker.get());
        Calls twin = new Calls(maker.get());
        String call = name + Arrays.toString(arguments);
        check.due(call, exception, () -> press.answer(name, arguments));
        check.due("the state after " + call, twin.state(), press::state);
        check.due("encode after " + call, twin.answer("encode"), () -> press.answer("encode"));
        check.due("the coding after " + call, twin.state(), press::state);
    }

    // ---- picture: promises 2 to 6 ----

    private void resizeIsRefused() {
        int[][] sizes = {{0, 1}, {0, 24}, {17, 1}, {17, 24}, {1, 0}, {16, 0}, {1, 25}, {16, 25}, {0, 0}, {17, 25},
            {-1, 8}, {8, -1}, {LEAST, 8}, {8, LEAST}, {MOST, 8}, {8, MOST}, {MOST, MOST}, {65536, 65536}};
        for (int[] size : sizes) {
            refused(RefusalTest::coded, ARGUMENT, "resize", size[0], size[1]);
        }
    }

    private void setIsRefused() {
        for (int[] place : NO_PIXELS) {
            refused(RefusalTest::coded, INDEX, "set", place[0], place[1], 7);
        }
        for (int value : NO_BYTES) {
            refused(RefusalTest::coded, ARGUMENT, "set", 8, 9, value);
            refused(RefusalTest::coded, INDEX, "set", 9, 9, value);
            refused(RefusalTest::coded, INDEX, "set", 8, 10, value);
        }
    }

    private void fillIsRefused() {
        for (int[] place : NO_PIXELS) {
            refused(RefusalTest::coded, INDEX, "fill", place[0], place[1], 1, 1, 7);
        }
        for (int value : NO_BYTES) {
            refused(RefusalTest::coded, ARGUMENT, "fill", 8, 9, 1, 1, value);
        }
        int[][] areas = {{0, 1}, {1, 0}, {0, 0}, {-1, 1}, {1, -1}, {-1, -1}, {5, 1}, {1, 6}, {5, 6}, {LEAST, 1},
            {1, LEAST}, {MOST, 1}, {1, MOST}, {MOST - 4, 1}, {1, MOST - 4}, {LEAST, LEAST}, {MOST, MOST}};
        for (int[] area : areas) {
            refused(RefusalTest::coded, ARGUMENT, "fill", 5, 5, area[0], area[1], 7);
        }
        refused(RefusalTest::coded, ARGUMENT, "fill", 0, 0, 10, 10, 7);
        refused(RefusalTest::coded, ARGUMENT, "fill", 0, 0, 9, 11, 7);
    }

    private void fillNamesThePixelFirst() {
        refused(RefusalTest::coded, INDEX, "fill", 9, 0, 1, 1, 256);
        refused(RefusalTest::coded, INDEX, "fill", 0, 10, 0, 1, 7);
        refused(RefusalTest::coded, INDEX, "fill", -1, 0, 2, 1, 7);
        refused(RefusalTest::coded, INDEX, "fill", 0, -1, 1, 2, -1);
        refused(RefusalTest::coded, INDEX, "fill", LEAST, MOST, LEAST, MOST, MOST);
        refused(RefusalTest::coded, ARGUMENT, "fill", 0, 0, 0, 0, 256);
    }

    private void rampIsRefused() {
        for (int value : NO_BYTES) {
            refused(RefusalTest::coded, ARGUMENT, "ramp", value, 0, 255);
            refused(RefusalTest::coded, ARGUMENT, "ramp", 255, value, 0);
            refused(RefusalTest::coded, ARGUMENT, "ramp", 0, 255, value);
            refused(RefusalTest::coded, ARGUMENT, "ramp", value, value, value);
        }
    }

    private void pixelIsRefused() {
        for (int[] place : NO_PIXELS) {
            refused(RefusalTest::coded, INDEX, "pixel", place[0], place[1]);
        }
    }

    // ---- settings: promise 9 ----

    private void setStepsIsRefused() {
        int[][] all = {
            // A step that is not 0 is not between 1 and 32.
            {33, 0, 0}, {-1, 0, 0}, {LEAST, 0, 0}, {MOST, 0, 0}, {33, 32, 31}, {32, -1, 0}, {32, LEAST, 0},
            {32, 33, 0}, {32, MOST, 0}, {32, 31, -1}, {32, 31, LEAST}, {32, 31, 33}, {32, 31, MOST}, {32, 0, -1},
            {32, 0, 33}, {0, 0, -1}, {0, -1, 0},
            // The first one is 0.
            {0, 0, 0}, {0, 1, 0}, {0, 0, 1}, {0, 2, 1},
            // The second one is 0 and the third one is not.
            {32, 0, 1}, {32, 0, 31}, {1, 0, 1},
            // A step is not less than the one before.
            {1, 1, 0}, {32, 32, 0}, {31, 32, 0}, {1, 2, 0}, {32, 31, 31}, {32, 1, 1}, {32, 1, 2}, {32, 30, 31},
            {5, 5, 4}, {5, 6, 4}, {5, 4, 5}};
        for (int[] steps : all) {
            refused(RefusalTest::coded, ARGUMENT, "setSteps", steps[0], steps[1], steps[2]);
            refused(PixelPress::new, ARGUMENT, "setSteps", steps[0], steps[1], steps[2]);
        }
    }

    // ---- stream: promises 14 to 16 ----

    private void bytesAreRefused() {
        int size = coded().size();
        for (int index : new int[] {-1, size, size + 1, LEAST, MOST}) {
            refused(RefusalTest::coded, INDEX, "byteAt", index);
            refused(RefusalTest::coded, INDEX, "setByte", index, 7);
            refused(RefusalTest::coded, INDEX, "setByte", index, 256);
        }
        for (int value : NO_BYTES) {
            refused(RefusalTest::coded, ARGUMENT, "setByte", 0, value);
            refused(RefusalTest::coded, ARGUMENT, "setByte", size - 1, value);
            refused(RefusalTest::coded, INDEX, "setByte", size, value);
        }
        for (int index : new int[] {-1, 0, 1, MOST}) {
            refused(PixelPress::new, INDEX, "byteAt", index);
            refused(PixelPress::new, INDEX, "setByte", index, 7);
            refused(PixelPress::new, INDEX, "setByte", index, -1);
        }
    }

    private void bytesBehindACutAreRefused() {
        refused(() -> shortened(9), INDEX, "byteAt", 9);
        refused(() -> shortened(9), INDEX, "setByte", 9, 7);
        refused(() -> shortened(0), INDEX, "byteAt", 0);
        refused(() -> shortened(0), INDEX, "setByte", 0, 7);
    }

    private void cutIsRefused() {
        int size = coded().size();
        for (int left : new int[] {-1, size + 1, LEAST, MOST}) {
            refused(RefusalTest::coded, ARGUMENT, "cut", left);
        }
        for (int left : new int[] {-1, 1, LEAST, MOST}) {
            refused(PixelPress::new, ARGUMENT, "cut", left);
        }
        // What was cut off does not come back.
        refused(() -> shortened(9), ARGUMENT, "cut", 10);
        refused(() -> shortened(9), ARGUMENT, "cut", size);
    }

    // ---- decoding: promises 17 to 25 ----

    private void decodeIsRefused() {
        for (int layers : new int[] {0, 4, -1, LEAST, MOST}) {
            refused(RefusalTest::coded, ARGUMENT, "decode", layers);
            refused(PixelPress::new, ARGUMENT, "decode", layers);
            refused(() -> changed(0, 81), ARGUMENT, "decode", layers);
        }
        for (int layers = 1; layers <= 3; layers++) {
            refused(PixelPress::new, STATE, "decode", layers);
            refused(() -> changed(0, 81), STATE, "decode", layers);
            refused(() -> shortened(6), STATE, "decode", layers);
        }
    }

    private static PixelPress codedAlone() {
        PixelPress press = new PixelPress();
        press.encode();
        press.resize(5, 5);
        return press;
    }

    private void nothingDecodedIsRefused(Supplier<PixelPress> maker) {
        for (String name : new String[] {"decodedWidth", "decodedHeight", "isSame", "squaredError", "greatestError"}) {
            refused(maker, NOTHING, name);
        }
        for (int[] place : new int[][] {{0, 0}, {-1, 0}, {0, -1}, {8, 0}, {0, 8}, {LEAST, MOST}}) {
            refused(maker, NOTHING, "decodedPixel", place[0], place[1]);
        }
        for (int slice : new int[] {0, -1, 1, 3, LEAST, MOST}) {
            refused(maker, NOTHING, "fault", slice);
            refused(maker, NOTHING, "layersUsed", slice);
        }
    }

    private void aRefusedDecodeDecodesNothing() {
        PixelPress press = new PixelPress();
        press.encode();
        press.setByte(0, 0);
        check.due("decode", STATE, () -> press.decode(1));
        check.due("decodedWidth", NOTHING, press::decodedWidth);
        check.due("fault", NOTHING, () -> press.fault(0));
        check.due("isSame", NOTHING, press::isSame);
    }

    private void whatWasNotDecodedIsRefused() {
        for (int[] place : NO_PIXELS) {
            refused(RefusalTest::coded, INDEX, "decodedPixel", place[0], place[1]);
            refused(() -> resized(16, 24), INDEX, "decodedPixel", place[0], place[1]);
        }
        for (int slice : new int[] {-1, 2, 3, LEAST, MOST}) {
            refused(RefusalTest::coded, INDEX, "fault", slice);
            refused(RefusalTest::coded, INDEX, "layersUsed", slice);
            refused(() -> resized(16, 24), INDEX, "fault", slice);
            refused(() -> resized(16, 24), INDEX, "layersUsed", slice);
        }
    }

    private void errorsOfOtherSizesAreRefused() {
        for (int[] size : new int[][] {{10, 9}, {9, 9}, {9, 11}, {8, 10}, {10, 10}, {1, 1}, {16, 24}}) {
            refused(() -> resized(size[0], size[1]), STATE, "squaredError");
            refused(() -> resized(size[0], size[1]), STATE, "greatestError");
        }
    }

    // ---- last coding: promises 26 to 32 ----

    private void noCodingIsRefused(Supplier<PixelPress> maker) {
        for (int layer : new int[] {0, -1, 1, 2, 3, LEAST, MOST}) {
            refused(maker, NOTHING, "blocks", layer);
            refused(maker, NOTHING, "partSize", layer, 0);
            for (String name : ASKED_OF_PIXELS) {
                refused(maker, NOTHING, name, layer, 0, 0);
            }
        }
        for (String name : ASKED_OF_PIXELS) {
            refused(maker, NOTHING, name, 0, -1, 0);
            refused(maker, NOTHING, name, 0, 0, 24);
        }
        refused(maker, NOTHING, "partSize", 0, -1);
        refused(maker, NOTHING, "partSize", 0, 3);
    }

    private void noLayerIsRefused() {
        for (int layer : new int[] {-1, 3, 4, LEAST, MOST}) {
            refused(RefusalTest::coded, INDEX, "blocks", layer);
            refused(RefusalTest::coded, INDEX, "partSize", layer, 0);
            refused(RefusalTest::coded, INDEX, "partSize", layer, 2);
            for (String name : ASKED_OF_PIXELS) {
                refused(RefusalTest::coded, INDEX, name, layer, 0, 0);
                refused(RefusalTest::coded, INDEX, name, layer, 9, 10);
            }
        }
    }

    private static PixelPress codedOf(int layers) {
        PixelPress press = coded();
        press.setSteps(9, layers > 1 ? 8 : 0, layers > 2 ? 7 : 0);
        press.encode();
        return press;
    }

    private void layersBehindTheLastAreRefused() {
        for (int count = 1; count <= 3; count++) {
            int layers = count;
            refused(() -> codedOf(layers), INDEX, "blocks", layers);
            refused(() -> codedOf(layers), INDEX, "partSize", layers, 0);
            for (String name : ASKED_OF_PIXELS) {
                refused(() -> codedOf(layers), INDEX, name, layers, 0, 0);
            }
        }
    }

    private void noCodedPixelIsRefused() {
        for (String name : ASKED_OF_PIXELS) {
            for (int[] place : NO_PIXELS) {
                refused(RefusalTest::coded, INDEX, name, 2, place[0], place[1]);
                refused(() -> resized(16, 24), INDEX, name, 0, place[0], place[1]);
            }
        }
    }

    private void noCodedSliceIsRefused() {
        for (int slice : new int[] {-1, 2, 3, LEAST, MOST}) {
            refused(RefusalTest::coded, INDEX, "partSize", 0, slice);
            refused(() -> resized(16, 24), INDEX, "partSize", 2, slice);
        }
    }

    private void ratioIsRefused() {
        refused(PixelPress::new, NOTHING, "ratio");
        refused(() -> {
            PixelPress press = new PixelPress();
            press.resize(1, 1);
            press.cut(0);
            return press;
        }, NOTHING, "ratio");
    }

    public static void main(String[] args) {
        RefusalTest test = new RefusalTest();
        test.resizeIsRefused();
        test.setIsRefused();
        test.fillIsRefused();
        test.fillNamesThePixelFirst();
        test.rampIsRefused();
        test.pixelIsRefused();
        test.setStepsIsRefused();
        test.bytesAreRefused();
        test.bytesBehindACutAreRefused();
        test.cutIsRefused();
        test.decodeIsRefused();
        test.nothingDecodedIsRefused(PixelPress::new);
        test.nothingDecodedIsRefused(RefusalTest::codedAlone);
        test.aRefusedDecodeDecodesNothing();
        test.whatWasNotDecodedIsRefused();
        test.errorsOfOtherSizesAreRefused();
        test.noCodingIsRefused(PixelPress::new);
        test.noCodingIsRefused(RefusalTest::plain);
        test.noLayerIsRefused();
        test.layersBehindTheLastAreRefused();
        test.noCodedPixelIsRefused();
        test.noCodedSliceIsRefused();
        test.ratioIsRefused();
        test.check.end();
    }
}
