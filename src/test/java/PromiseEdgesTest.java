/**
 * The edges of what the promises 1 to 32 allow: the least and the greatest, the empty and the full, what wraps around.
 * What lies beyond them is in RefusalTest.
 */
public final class PromiseEdgesTest {
    /** The corners of a slice: its heights around the multiples of 8, and how many slices they make. */
    private static final int[][] SLICES = {{1, 1}, {7, 1}, {8, 1}, {9, 2}, {15, 2}, {16, 2}, {17, 3}, {23, 3}, {24, 3}};

    private final Check check = new Check();

    private void duePicture(String what, PixelPress press, int[][] want) {
        check.due(what + ": width", want[0].length, press::width);
        check.due(what + ": height", want.length, press::height);
        for (int y = 0; y < want.length; y++) {
            for (int x = 0; x < want[y].length; x++) {
                int column = x;
                int row = y;
                check.due(what + ": pixel " + x + ", " + y, want[y][x], () -> press.pixel(column, row));
            }
        }
    }

    // ---- promise 1 ----

    private void aNewObjectHasTheFirstPictureAndSettings() {
        PixelPress press = new PixelPress();
        duePicture("a new object", press, new int[8][8]);
        check.due("isLossless", true, press::isLossless);
        check.due("size", 0, press::size);
        press.encode();
        check.due("the layers at first", 1, () -> press.byteAt(3));
        check.due("the step at first", 1, () -> press.byteAt(4));
    }

    // ---- promises 2, 7 and 8 ----

    private void resizeTakesEachSize() {
        for (int width = 1; width <= 16; width++) {
            for (int height = 1; height <= 24; height++) {
                PixelPress press = new PixelPress();
                int columns = width;
                int rows = height;
                check.due("resize " + width + ", " + height, width * height, () -> press.resize(columns, rows));
                check.due("width", width, press::width);
                check.due("height", height, press::height);
                check.due("the last pixel", 0, () -> press.pixel(columns - 1, rows - 1));
            }
        }
    }

    private void resizeMakesZerosOfAFullPicture() {
        for (int[] size : new int[][] {{16, 24}, {1, 1}, {8, 8}, {16, 1}, {1, 24}, {15, 23}}) {
            PixelPress press = new PixelPress();
            press.resize(16, 24);
            press.fill(0, 0, 16, 24, 255);
            press.resize(size[0], size[1]);
            duePicture("a full picture resized", press, new int[size[1]][size[0]]);
            press.resize(16, 24);
            duePicture("the greatest picture after it", press, new int[24][16]);
        }
    }

    // ---- promises 3 and 6 ----

    private void setReachesTheCorners() {
        for (int[] size : new int[][] {{1, 1}, {16, 24}, {9, 10}}) {
            int right = size[0] - 1;
            int down = size[1] - 1;
            for (int[] corner : new int[][] {{0, 0}, {right, 0}, {0, down}, {right, down}}) {
                PixelPress press = new PixelPress();
                press.resize(size[0], size[1]);
                int[][] want = new int[size[1]][size[0]];
                want[corner[1]][corner[0]] = 255;
                check.due("set to the greatest value", 0, () -> press.set(corner[0], corner[1], 255));
                duePicture("set at a corner", press, want);
                check.due("set to the least value", 255, () -> press.set(corner[0], corner[1], 0));
                duePicture("set back at a corner", press, new int[size[1]][size[0]]);
            }
        }
    }

    // ---- promise 4 ----

    private void dueFill(int[] size, int x, int y, int width, int height, int value) {
        PixelPress press = new PixelPress();
        press.resize(size[0], size[1]);
        press.fill(0, 0, size[0], size[1], 100);
        int[][] want = new int[size[1]][size[0]];
        for (int row = 0; row < size[1]; row++) {
            for (int column = 0; column < size[0]; column++) {
                boolean inside = column >= x && column < x + width && row >= y && row < y + height;
                want[row][column] = inside ? value : 100;
            }
        }
        check.due("fill", width * height, () -> press.fill(x, y, width, height, value));
        duePicture("fill at " + x + ", " + y + " of " + width + " by " + height, press, want);
    }

    private void fillReachesTheEdges() {
        for (int[] size : new int[][] {{1, 1}, {9, 10}, {16, 24}}) {
            int width = size[0];
            int height = size[1];
            dueFill(size, 0, 0, width, height, 255);
            dueFill(size, 0, 0, width, height, 0);
            dueFill(size, 0, 0, 1, 1, 255);
            dueFill(size, width - 1, height - 1, 1, 1, 0);
            dueFill(size, width - 1, 0, 1, height, 1);
            dueFill(size, 0, height - 1, width, 1, 254);
            dueFill(size, width / 2, height / 2, width - width / 2, height - height / 2, 7);
        }
    }

    // ---- promise 5 ----

    private void rampWrapsAroundAt256() {
        PixelPress press = new PixelPress();
        press.resize(3, 2);
        check.due("ramp over the greatest value to the right", 1, () -> press.ramp(255, 1, 0));
        duePicture("to the right", press, new int[][] {{255, 0, 1}, {255, 0, 1}});
        check.due("ramp over the greatest value downwards", 0, () -> press.ramp(255, 0, 1));
        duePicture("downwards", press, new int[][] {{255, 255, 255}, {0, 0, 0}});
        check.due("ramp up to the greatest value", 255, () -> press.ramp(252, 1, 1));
        duePicture("without a wrap", press, new int[][] {{252, 253, 254}, {253, 254, 255}});
        check.due("ramp over it at the last pixel alone", 0, () -> press.ramp(253, 1, 1));
        duePicture("with one", press, new int[][] {{253, 254, 255}, {254, 255, 0}});
        press.resize(1, 1);
        check.due("ramp of one pixel", 255, () -> press.ramp(255, 255, 255));
    }

    private void rampWrapsAroundManyTimes() {
        PixelPress press = new PixelPress();
        press.resize(16, 24);
        int[][] want = new int[24][16];
        for (int y = 0; y < 24; y++) {
            for (int x = 0; x < 16; x++) {
                // 255 is -1 by 256, so each column and each row takes 1 away.
                want[y][x] = 255 - x - y;
            }
        }
        check.due("the steepest ramp", 255 - 15 - 23, () -> press.ramp(255, 255, 255));
        duePicture("the steepest ramp", press, want);
        check.due("the flattest ramp", 0, () -> press.ramp(0, 0, 0));
        duePicture("the flattest ramp", press, new int[24][16]);
    }

    // ---- promises 9 and 10 ----

    private void stepsReachTheirEdges() {
        int[][] all = {{1, 0, 0, 1}, {32, 0, 0, 1}, {2, 1, 0, 2}, {32, 1, 0, 2}, {32, 31, 0, 2}, {3, 2, 1, 3},
            {32, 31, 30, 3}, {32, 31, 1, 3}, {32, 2, 1, 3}};
        for (int[] steps : all) {
            PixelPress press = new PixelPress();
            check.due("setSteps", steps[3], () -> press.setSteps(steps[0], steps[1], steps[2]));
            check.due("isLossless", steps[steps[3] - 1] == 1, press::isLossless);
            press.encode();
            for (int index = 0; index < steps[3]; index++) {
                int layer = index;
                check.due("a step of the stream", steps[layer], () -> press.byteAt(4 + layer));
            }
        }
    }

    // ---- promises 11, 13 and 14 ----

    private void encodeOfTheLeastPicture() {
        PixelPress press = new PixelPress();
        press.resize(1, 1);
        check.due("encode", 10, press::encode);
        int[] want = {80, 1, 1, 1, 1, 0, 2, 32, 0, 16};
        for (int i = 0; i < want.length; i++) {
            int index = i;
            check.due("byte " + i, want[i], () -> press.byteAt(index));
        }
        check.due("a part behind it", Check.thrown(IndexOutOfBoundsException.class), () -> press.partSize(0, 1));
    }

    /** The stream has several times as many bytes as the picture has pixels. */
    private void encodeOfTheFullestPicture() {
        PixelPress press = new PixelPress();
        Streams.paintNoise(press);
        press.setSteps(32, 8, 1);
        int size = press.encode();
        check.due("more bytes than a plain stream has", true, () -> size > 512);
        check.due("size", size, press::size);
        int sum = 7;
        for (int layer = 0; layer < 3; layer++) {
            for (int slice = 0; slice < 3; slice++) {
                sum += 3 + press.partSize(layer, slice);
            }
        }
        int parts = sum;
        check.due("the bytes of header and parts", size, () -> parts);
        ReferencePress reference = new ReferencePress();
        reference.resize(16, 24);
        for (int i = 0; i < 384; i++) {
            reference.set(i % 16, i / 16, press.pixel(i % 16, i / 16));
        }
        reference.setSteps(32, 8, 1);
        reference.encode();
        for (int i = 0; i < size; i++) {
            int index = i;
            check.due("byte " + i, reference.byteAt(index), () -> press.byteAt(index));
        }
        check.due("decode", 0, () -> press.decode(3));
        check.due("isSame", true, press::isSame);
    }

    private void aShorterStreamReplacesALongerOne() {
        PixelPress press = new PixelPress();
        Streams.paintNoise(press);
        press.encode();
        press.resize(8, 8);
        check.due("encode", 10, press::encode);
        check.due("size", 10, press::size);
        check.due("the byte behind it", Check.thrown(IndexOutOfBoundsException.class), () -> press.byteAt(10));
        check.due("decode", 0, () -> press.decode(1));
        check.due("isSame", true, press::isSame);
    }

    // ---- promise 12 ----

    private void encodePlainOfTheLeastAndTheGreatest() {
        PixelPress press = new PixelPress();
        press.resize(1, 1);
        press.set(0, 0, 255);
        check.due("encodePlain of the least", 4, press::encodePlain);
        check.due("its pixel", 255, () -> press.byteAt(3));
        press.resize(16, 24);
        press.set(15, 23, 254);
        check.due("encodePlain of the greatest", 387, press::encodePlain);
        check.due("its width", 16, () -> press.byteAt(1));
        check.due("its height", 24, () -> press.byteAt(2));
        check.due("its first pixel", 0, () -> press.byteAt(3));
        check.due("its last pixel", 254, () -> press.byteAt(386));
        check.due("the byte behind it", Check.thrown(IndexOutOfBoundsException.class), () -> press.byteAt(387));
    }

    // ---- promises 14 and 15 ----

    private void bytesAreReachedAtBothEnds() {
        PixelPress press = new PixelPress();
        Streams.paintNoise(press);
        press.setSteps(32, 8, 1);
        int last = press.encode() - 1;
        for (int index : new int[] {0, 1, 511, 512, last - 1, last}) {
            int before = press.byteAt(index);
            check.due("setByte to the greatest value at " + index, before, () -> press.setByte(index, 255));
            check.due("byteAt " + index, 255, () -> press.byteAt(index));
            check.due("setByte to the least value at " + index, 255, () -> press.setByte(index, 0));
            check.due("byteAt " + index + " again", 0, () -> press.byteAt(index));
            press.setByte(index, before);
        }
        check.due("decode of what is as it was", 0, () -> press.decode(3));
    }

    // ---- promise 16 ----

    private void cutTakesNothingOrAll() {
        PixelPress press = new PixelPress();
        check.due("cut of an empty stream", 0, () -> press.cut(0));
        press.encode();
        check.due("cut of nothing", 0, () -> press.cut(10));
        check.due("cut of one byte", 1, () -> press.cut(9));
        check.due("cut to one byte", 8, () -> press.cut(1));
        check.due("the byte that is left", 80, () -> press.byteAt(0));
        check.due("cut of the last byte", 1, () -> press.cut(0));
        check.due("size", 0, press::size);
        check.due("cut of nothing again", 0, () -> press.cut(0));
    }

    // ---- promise 17 ----

    private void decodeTakesOneToThreeLayers() {
        for (int count = 1; count <= 3; count++) {
            PixelPress press = new PixelPress();
            press.fill(0, 0, 8, 8, 200);
            press.setSteps(32, count > 1 ? 5 : 0, count > 2 ? 1 : 0);
            press.encode();
            for (int asked = 1; asked <= 3; asked++) {
                int layers = asked;
                int used = Math.min(count, asked);
                check.due("decode of " + asked, 0, () -> press.decode(layers));
                check.due("layersUsed", used, () -> press.layersUsed(0));
                // 200 is 6 times 32, and 8 is 5 and 3 more.
                int want = used == 1 ? 192 : used == 2 ? 197 : 200;
                check.due("decodedPixel", want, () -> press.decodedPixel(7, 7));
            }
        }
    }

    private void decodeCountsNoneToAllSlices() {
        for (int[] slices : SLICES) {
            PixelPress press = new PixelPress();
            press.resize(1, slices[0]);
            press.encode();
            check.due("decode of whole ones", 0, () -> press.decode(1));
            press.cut(5);
            check.due("decode of the header", slices[1], () -> press.decode(1));
            press.encodePlain();
            check.due("decode of a plain one", 0, () -> press.decode(3));
            press.cut(3);
            check.due("decode of a plain header", slices[1], () -> press.decode(3));
        }
    }

    private void aSmallerPictureReplacesAGreaterOne() {
        PixelPress press = new PixelPress();
        press.resize(16, 24);
        press.fill(0, 0, 16, 24, 255);
        press.encode();
        press.decode(1);
        press.resize(1, 1);
        press.encode();
        press.decode(1);
        check.due("decodedWidth", 1, press::decodedWidth);
        check.due("decodedHeight", 1, press::decodedHeight);
        check.due("decodedPixel", 0, () -> press.decodedPixel(0, 0));
        check.due("isSame", true, press::isSame);
        press.resize(16, 24);
        press.encode();
        press.decode(1);
        check.due("isSame of the greatest", true, press::isSame);
    }

    // ---- promises 18 to 20 ----

    private void decodedSizesAreTheLeastAndTheGreatest() {
        for (int[] size : new int[][] {{1, 1}, {16, 1}, {1, 24}, {16, 24}}) {
            for (boolean plain : new boolean[] {false, true}) {
                PixelPress press = new PixelPress();
                press.resize(size[0], size[1]);
                press.set(size[0] - 1, size[1] - 1, 255);
                int bytes = plain ? press.encodePlain() : press.encode();
                press.decode(1);
                press.resize(2, 2);
                check.due("decodedWidth of " + bytes, size[0], press::decodedWidth);
                check.due("decodedHeight of " + bytes, size[1], press::decodedHeight);
                check.due("the last pixel", 255, () -> press.decodedPixel(size[0] - 1, size[1] - 1));
                check.due("the first pixel", size[0] * size[1] == 1 ? 255 : 0, () -> press.decodedPixel(0, 0));
                check.due("a pixel to the right", Check.thrown(IndexOutOfBoundsException.class),
                        () -> press.decodedPixel(size[0], 0));
                check.due("a pixel below", Check.thrown(IndexOutOfBoundsException.class),
                        () -> press.decodedPixel(0, size[1]));
            }
        }
    }

    // ---- promises 21, 22 and 31 ----

    private void aSliceHasEightRowsOrThoseThatAreLeft() {
        String none = Check.thrown(IndexOutOfBoundsException.class);
        for (int[] slices : SLICES) {
            PixelPress press = new PixelPress();
            press.resize(3, slices[0]);
            press.encode();
            press.decode(1);
            int last = slices[1] - 1;
            check.due("fault of the first slice", 'n', () -> press.fault(0));
            check.due("fault of the last slice", 'n', () -> press.fault(last));
            check.due("fault behind it", none, () -> press.fault(last + 1));
            check.due("layersUsed of the first slice", 1, () -> press.layersUsed(0));
            check.due("layersUsed of the last slice", 1, () -> press.layersUsed(last));
            check.due("layersUsed behind it", none, () -> press.layersUsed(last + 1));
            check.due("partSize of the first slice", 2, () -> press.partSize(0, 0));
            check.due("partSize of the last slice", 2, () -> press.partSize(0, last));
            check.due("partSize behind it", none, () -> press.partSize(0, last + 1));
        }
    }

    private void layersUsedAreNoneToThree() {
        for (int spoiled = 0; spoiled < 4; spoiled++) {
            PixelPress press = new PixelPress();
            press.setSteps(3, 2, 1);
            press.encode();
            // Each of the three parts has 3 bytes ahead of its own 2.
            if (spoiled < 3) {
                press.setByte(7 + spoiled * 5 + 2, 250);
            }
            int used = spoiled;
            check.due("decode", used < 3 ? 1 : 0, () -> press.decode(3));
            check.due("layersUsed", used, () -> press.layersUsed(0));
            check.due("fault", used < 3 ? 's' : 'n', () -> press.fault(0));
        }
    }

    // ---- promises 23 to 25 ----

    private static PixelPress decoded(int width, int height, int value) {
        PixelPress press = new PixelPress();
        press.resize(width, height);
        press.fill(0, 0, width, height, value);
        press.encodePlain();
        press.decode(1);
        return press;
    }

    private void isSameLooksAtTheSize() {
        for (int[] size : new int[][] {{4, 4}, {3, 4}, {5, 4}, {4, 3}, {4, 5}, {2, 8}, {16, 1}}) {
            PixelPress press = decoded(4, 4, 0);
            press.resize(size[0], size[1]);
            check.due("isSame of zeros", size[0] == 4 && size[1] == 4, press::isSame);
        }
    }

    private void isSameLooksAtEachPixel() {
        for (int[] size : new int[][] {{1, 1}, {16, 24}, {5, 9}}) {
            PixelPress press = decoded(size[0], size[1], 100);
            check.due("isSame", true, press::isSame);
            for (int[] corner : new int[][] {{0, 0}, {size[0] - 1, 0}, {0, size[1] - 1}, {size[0] - 1, size[1] - 1}}) {
                for (int value : new int[] {99, 101}) {
                    press.set(corner[0], corner[1], value);
                    check.due("isSame but for one pixel", false, press::isSame);
                    check.due("squaredError of one pixel", 1, press::squaredError);
                    check.due("greatestError of one pixel", 1, press::greatestError);
                    press.set(corner[0], corner[1], 100);
                }
            }
            check.due("isSame again", true, press::isSame);
        }
    }

    private void errorsAreTheLeastAndTheGreatest() {
        PixelPress press = decoded(16, 24, 255);
        check.due("the least squaredError", 0, press::squaredError);
        check.due("the least greatestError", 0, press::greatestError);
        press.fill(0, 0, 16, 24, 0);
        check.due("the greatest squaredError", 384 * 255 * 255, press::squaredError);
        check.due("the greatest greatestError", 255, press::greatestError);
        PixelPress other = decoded(16, 24, 0);
        other.fill(0, 0, 16, 24, 255);
        check.due("the greatest squaredError the other way", 384 * 255 * 255, other::squaredError);
        check.due("the greatest greatestError the other way", 255, other::greatestError);
    }

    private void errorsOfBothSignsDoNotCancel() {
        PixelPress press = decoded(2, 1, 100);
        press.set(0, 0, 97);
        press.set(1, 0, 104);
        check.due("squaredError", 9 + 16, press::squaredError);
        check.due("greatestError", 4, press::greatestError);
        press.set(0, 0, 95);
        check.due("greatestError below", 5, press::greatestError);
    }

    // ---- promises 26 to 30 ----

    private void blocksAreOneToTwentyFour() {
        PixelPress press = new PixelPress();
        press.resize(1, 1);
        press.encode();
        check.due("the least number of blocks", 1, () -> press.blocks(0));
        press.resize(16, 24);
        press.encode();
        check.due("one block for each tile", 6, () -> press.blocks(0));
        for (int tile = 0; tile < 6; tile++) {
            press.fill(tile % 2 * 8, tile / 2 * 8, 4, 4, 255);
        }
        press.encode();
        check.due("four blocks for each tile", 24, () -> press.blocks(0));
        press.encode();
        check.due("four blocks for each tile once more", 24, () -> press.blocks(0));
    }

    private void lastCodingReachesTheCorners() {
        for (int[] size : new int[][] {{1, 1}, {9, 10}, {16, 24}}) {
            PixelPress press = new PixelPress();
            press.resize(size[0], size[1]);
            press.setSteps(3, 2, 1);
            press.encode();
            for (int layer : new int[] {0, 2}) {
                for (int[] corner : new int[][] {{0, 0}, {size[0] - 1, 0}, {0, size[1] - 1},
                    {size[0] - 1, size[1] - 1}}) {
                    check.due("blockSize", 8, () -> press.blockSize(layer, corner[0], corner[1]));
                    check.due("mode", 'd', () -> press.mode(layer, corner[0], corner[1]));
                    check.due("level", 0, () -> press.level(layer, corner[0], corner[1]));
                    check.due("cost", 4, () -> press.cost(layer, corner[0], corner[1]));
                }
            }
        }
    }

    private void blocksEndAtTheirEdges() {
        PixelPress press = new PixelPress();
        press.resize(16, 16);
        press.fill(0, 0, 4, 4, 255);
        press.encode();
        // The first tile is divided, the others are not.
        int[][] sizes = {{0, 0, 4}, {3, 3, 4}, {4, 0, 4}, {7, 7, 4}, {8, 0, 8}, {8, 7, 8}, {0, 8, 8}, {7, 8, 8},
            {15, 15, 8}};
        for (int[] place : sizes) {
            check.due("blockSize at " + place[0] + ", " + place[1], place[2],
                    () -> press.blockSize(0, place[0], place[1]));
        }
        int[][] costs = {{0, 0, 20}, {3, 3, 20}, {4, 3, 4}, {3, 4, 4}, {4, 4, 4}, {8, 3, 4}, {3, 8, 4}};
        for (int[] place : costs) {
            check.due("cost at " + place[0] + ", " + place[1], place[2], () -> press.cost(0, place[0], place[1]));
        }
        int[][] modes = {{3, 3, 'd'}, {4, 3, 'v'}, {7, 0, 'v'}, {3, 4, 'h'}, {0, 7, 'h'}, {4, 4, 'd'}, {8, 0, 'd'}};
        for (int[] place : modes) {
            check.due("mode at " + place[0] + ", " + place[1], (char) place[2],
                    () -> press.mode(0, place[0], place[1]));
        }
    }

    // ---- promise 32 ----

    private void ratioLiesOnBothSidesOfOne() {
        PixelPress press = new PixelPress();
        press.resize(1, 1);
        press.encode();
        check.due("ratio of the least picture", 10f / 4f, press::ratio);
        press.encodePlain();
        check.due("ratio of a plain stream", 1f, press::ratio);
        press.resize(16, 24);
        press.encode();
        // Three parts of 2 bytes and their 3 bytes each, behind the header of 5.
        check.due("ratio of the greatest empty picture", 20f / 387f, press::ratio);
        press.cut(0);
        press.resize(1, 1);
        check.due("ratio after a cut and another size", 20f / 387f, press::ratio);
    }

    // ---- the number of calls ----

    private void theLastOf512CallsIsAnswered() {
        PixelPress press = new PixelPress();
        press.resize(16, 24);
        press.ramp(9, 83, 47);
        press.setSteps(17, 5, 1);
        int size = press.encode();
        for (int call = 5; call < 511; call++) {
            check.due("encode, call " + call, size, press::encode);
        }
        check.due("decode, call 511", 0, () -> press.decode(3));
        check.due("isSame, call 512", true, press::isSame);
    }

    public static void main(String[] args) {
        PromiseEdgesTest test = new PromiseEdgesTest();
        test.aNewObjectHasTheFirstPictureAndSettings();
        test.resizeTakesEachSize();
        test.resizeMakesZerosOfAFullPicture();
        test.setReachesTheCorners();
        test.fillReachesTheEdges();
        test.rampWrapsAroundAt256();
        test.rampWrapsAroundManyTimes();
        test.stepsReachTheirEdges();
        test.encodeOfTheLeastPicture();
        test.encodeOfTheFullestPicture();
        test.aShorterStreamReplacesALongerOne();
        test.encodePlainOfTheLeastAndTheGreatest();
        test.bytesAreReachedAtBothEnds();
        test.cutTakesNothingOrAll();
        test.decodeTakesOneToThreeLayers();
        test.decodeCountsNoneToAllSlices();
        test.aSmallerPictureReplacesAGreaterOne();
        test.decodedSizesAreTheLeastAndTheGreatest();
        test.aSliceHasEightRowsOrThoseThatAreLeft();
        test.layersUsedAreNoneToThree();
        test.isSameLooksAtTheSize();
        test.isSameLooksAtEachPixel();
        test.errorsAreTheLeastAndTheGreatest();
        test.errorsOfBothSignsDoNotCancel();
        test.blocksAreOneToTwentyFour();
        test.lastCodingReachesTheCorners();
        test.blocksEndAtTheirEdges();
        test.ratioLiesOnBothSidesOfOne();
        test.theLastOf512CallsIsAnswered();
        test.check.end();
    }
}
