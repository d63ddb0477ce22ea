import java.util.Arrays;

/**
 * The edges in the terms of the stream: parts of chosen modes and levels, their bits, sizes and checksums, headers, and
 * where a stream may end.
 */
public final class PartTest {
    private static final String BAD_STATE = Check.thrown(IllegalStateException.class);
    private static final int[] ONE = {1};
    private static final int[] TWO_AND_ONE = {2, 1};

    private final Check check = new Check();

    private void duePixel(String what, PixelPress press, int x, int y, int want) {
        check.due(what + ": pixel " + x + ", " + y, want, () -> press.decodedPixel(x, y));
    }

    private void dueFlat(String what, PixelPress press, int want) {
        for (int y = 0; y < press.decodedHeight(); y++) {
            for (int x = 0; x < press.decodedWidth(); x++) {
                duePixel(what, press, x, y, want);
            }
        }
    }

    private void dueSlice(String what, PixelPress press, int slice, char fault, int layers) {
        check.due(what + ": fault of the slice " + slice, fault, () -> press.fault(slice));
        check.due(what + ": layers of the slice " + slice, layers, () -> press.layersUsed(slice));
    }

    /** An object that has decoded a picture of one slice from parts of one layer each. */
    private PixelPress decoded(int width, int[] steps, int[]... parts) {
        PixelPress press = Streams.press(Streams.coded(width, 8, steps, parts));
        check.due("decode", 0, () -> press.decode(3));
        return press;
    }

    // ---- the bits of a level ----

    private void levelsHaveOneToTwelveDigits() {
        for (int digits = 1; digits <= 12; digits++) {
            int least = 1 << (digits - 1);
            for (int level : new int[] {least, 2 * least - 1, -least, 1 - 2 * least}) {
                // The layer before lifts the level to 100, or 101.
                int want = 100 + (level & 1);
                int[] lift = new Part().flatTile('d', (want - level) / 2).bytes();
                PixelPress press = decoded(8, TWO_AND_ONE, lift, new Part().flatTile('d', level).bytes());
                dueFlat("the level " + level, press, want);
            }
        }
    }

    /** The bits behind such levels are read right only if each bit of them was taken with its own context. */
    private void aTileMayBeFullOfTheGreatestLevels() {
        int[][] all = {{4095, -4095}, {4095, 4095}, {-4095, -2048}, {2048, 2047}, {2047, -1024}, {1023, 4095}};
        for (int[] pair : all) {
            int[][] levels = new int[8][8];
            for (int place = 0; place < 64; place++) {
                levels[place / 8][place % 8] = pair[place * 5 % 7 % 2];
            }
            int[] part = new Part().tile(1).block('d', levels).flatTile('v', 77).bytes();
            PixelPress press = decoded(16, ONE, part);
            for (int place = 0; place < 64; place++) {
                duePixel("behind levels of " + pair[0] + " and " + pair[1], press, 8 + place % 8, place / 8, 77);
            }
        }
    }

    private void aTileMayBeFullOfFourBlocks() {
        Part part = new Part().tile(4);
        for (int block = 0; block < 4; block++) {
            part.block('v', new int[][] {{3, -4095, 0, 1}, {0, 0, -1, 0}, {4095, 0, 0, 2}, {-7, 0, 0, 0}});
        }
        PixelPress press = decoded(16, ONE, part.flatTile('v', 201).bytes());
        duePixel("behind four blocks", press, 8, 0, 201);
        duePixel("behind four blocks", press, 15, 7, 201);
    }

    // ---- the decoder ----

    private void aBitIsZeroUpToTheSplit() {
        // At first the split is 32767. The 16 bits are that much, so one block; the ones behind them make the level
        // -2048 with the mode 'a'. The layer before lifts it.
        int[] lift = new Part().flatTile('d', 1074).bytes();
        dueFlat("the code is the split", decoded(8, TWO_AND_ONE, lift, new int[] {127, 255}), 100);
        // One more is 1, so four blocks, and all behind it is 0.
        int[] flat = new Part().flatTile('d', 50).bytes();
        dueFlat("the code is one more", decoded(8, TWO_AND_ONE, flat, new int[] {128, 0}), 100);
    }

    private void bitsBehindTheEndAreZero() {
        PixelPress press = new PixelPress();
        press.set(0, 0, 2);
        press.encode();
        int[] part = {3, 51, 139, 162, 0};
        for (int i = 0; i < part.length; i++) {
            int index = i;
            check.due("byte " + i + " of the part", part[i], () -> press.byteAt(8 + index));
        }
        for (int[] bytes : new int[][] {{3, 51, 139, 162}, part, {3, 51, 139, 162, 0, 0, 0}}) {
            PixelPress other = decoded(8, ONE, bytes);
            duePixel(bytes.length + " bytes", other, 0, 0, 2);
            duePixel(bytes.length + " bytes", other, 1, 0, 0);
            duePixel(bytes.length + " bytes", other, 0, 1, 0);
            duePixel(bytes.length + " bytes", other, 7, 7, 0);
        }
        // The bytes of the next part are not its own.
        int[] next = new Part().flatTile('d', 255).bytes();
        PixelPress two = Streams.press(Streams.coded(8, 16, ONE, new int[] {3, 51, 139, 162}, next));
        check.due("decode of two slices", 0, () -> two.decode(1));
        duePixel("two slices", two, 0, 0, 2);
        duePixel("two slices", two, 1, 0, 0);
        duePixel("two slices", two, 0, 8, 255);
    }

    private void aPartMayHaveNoByteOrOne() {
        dueFlat("no byte", decoded(8, ONE, new int[0]), 0);
        dueFlat("one byte", decoded(8, ONE, new int[] {0}), 0);
        int[] half = {127};
        int[] whole = {127, 0};
        PixelPress one = decoded(8, ONE, half);
        PixelPress two = decoded(8, ONE, whole);
        for (int place = 0; place < 64; place++) {
            duePixel("half of the first bits", one, place % 8, place / 8, two.decodedPixel(place % 8, place / 8));
        }
    }

    // ---- prediction and transform, undone ----

    private void predictionsBelowZeroAreRoundedDown() {
        int[] lift = new Part().flatTile('d', 50).flatTile('h', 0).bytes();
        // -3; then -12 / 8 = -1.5; then -3 / 2; then -16 / 8, and 1 more. To the right (4 * -2 + 4 * -1) / 16.
        int[] part = new Part().tile(4).block('d', 4, 0, 0, -3).block('d', 4, 0, 0, 0).block('a', 4, 0, 0, 0)
                .block('d', 4, 0, 0, 1).flatTile('d', 0).bytes();
        PixelPress press = decoded(16, TWO_AND_ONE, lift, part);
        int[][] wanted = {{0, 0, 97}, {4, 0, 98}, {0, 4, 98}, {4, 4, 99}, {8, 0, 99}, {15, 7, 99}};
        for (int[] pixel : wanted) {
            duePixel("below zero", press, pixel[0], pixel[1], pixel[2]);
        }
    }

    private void neighboursAreZeroWhereThereAreNone() {
        for (char mode : "dhva".toCharArray()) {
            int[] part = new Part().flatTile(mode, 9).bytes();
            PixelPress press = Streams.press(Streams.coded(8, 16, ONE, part, part));
            check.due("decode", 0, () -> press.decode(1));
            dueFlat("the mode " + mode, press, 9);
        }
    }

    private void undoneSplitsAreRoundedDown() {
        // Of a difference d one pixel gets (d + 1) / 2, rounded down, and the next one d less.
        int[][] all = {{-4, -2, 2}, {-3, -1, 2}, {-2, -1, 1}, {-1, 0, 1}, {1, 1, 0}, {2, 1, -1}, {3, 2, -1},
            {4, 2, -2}};
        int[] lift = new Part().flatTile('d', 50).bytes();
        for (int[] one : all) {
            String what = "the difference " + one[0];
            int[] across = new Part().tile(1).block('d', 8, 4, 0, one[0]).bytes();
            PixelPress press = decoded(8, TWO_AND_ONE, lift, across);
            duePixel(what, press, 0, 0, 100 + one[1]);
            duePixel(what, press, 1, 0, 100 + one[2]);
            duePixel(what, press, 2, 0, 100);
            int[] down = new Part().tile(1).block('d', 8, 0, 4, one[0]).bytes();
            PixelPress other = decoded(8, TWO_AND_ONE, lift, down);
            duePixel(what + " downwards", other, 0, 0, 100 + one[1]);
            duePixel(what + " downwards", other, 0, 1, 100 + one[2]);
            duePixel(what + " downwards", other, 0, 2, 100);
        }
    }

    // ---- the sums ----

    private void sumsAreHeldBetween0And255() {
        int[][] all = {{-4095, 0}, {-1, 0}, {0, 0}, {1, 1}, {254, 254}, {255, 255}, {256, 255}, {4095, 255}};
        for (int[] one : all) {
            dueFlat("the sum " + one[0], decoded(8, ONE, new Part().flatTile('d', one[0]).bytes()), one[1]);
        }
    }

    private void onlyTheWholeSumIsHeld() {
        int[][] all = {{-100, 210, 10}, {150, -100, 200}, {-100, 199, 0}, {-100, 201, 1}, {150, -45, 255},
            {150, -46, 254}};
        for (int[] one : all) {
            int[] first = new Part().flatTile('d', one[0]).bytes();
            int[] second = new Part().flatTile('d', one[1]).bytes();
            dueFlat("twice " + one[0] + " and " + one[1], decoded(8, TWO_AND_ONE, first, second), one[2]);
        }
    }

    private void theStepMultipliesTheLevels() {
        for (int step = 1; step <= 32; step++) {
            dueFlat("the step " + step, decoded(8, new int[] {step}, new Part().flatTile('d', 7).bytes()), 7 * step);
        }
    }

    // ---- sizes and checksums ----

    private void sizesPassTheirFirstByte() {
        int[] bits = new Part().flatTile('d', 123).bytes();
        int[] next = new Part().flatTile('d', 45).bytes();
        for (int size : new int[] {bits.length, 254, 255, 256, 257, 300}) {
            int[] part = Arrays.copyOf(bits, size);
            PixelPress press = Streams.press(Streams.coded(8, 16, ONE, part, next));
            String what = "a part of " + size + " bytes";
            check.due(what + ": decode", 0, () -> press.decode(1));
            duePixel(what, press, 7, 7, 123);
            duePixel(what, press, 0, 8, 45);
            press.cut(press.size() - 1);
            check.due(what + ": decode without the last byte", 1, () -> press.decode(1));
            dueSlice(what, press, 0, 'n', 1);
            dueSlice(what, press, 1, 'e', 0);
            press.cut(5 + 3 + size - 1);
            check.due(what + ": decode without its last byte", 2, () -> press.decode(1));
            dueSlice(what, press, 0, 'e', 0);
        }
    }

    private void theGreatestSizeIsCut() {
        PixelPress press = Streams.press(80, 8, 8, 1, 1, 255, 255, 0, 0, 0);
        check.due("decode", 1, () -> press.decode(1));
        dueSlice("a part of 65535 bytes", press, 0, 'e', 0);
    }

    private void theChecksumIsTheRemainderBy251() {
        int[][] parts = {{0}, {1}, {250}, {251}, {252}, {255}, {0, 1}, {0, 125}, {1, 125}, {0, 126}, {250, 251},
            {1, 0, 0}, {0, 0, 1}};
        int[] sums = {0, 1, 250, 0, 1, 4, 2, 250, 0, 1, 250, 1, 3};
        for (int i = 0; i < parts.length; i++) {
            int[] stream = Streams.coded(8, 8, ONE, parts[i]);
            for (int more : new int[] {0, 1, 255, 251}) {
                int checksum = (sums[i] + more) % 256;
                stream[7] = checksum;
                PixelPress press = Streams.press(stream);
                boolean right = checksum == sums[i];
                check.due("decode of the part " + i + " with " + checksum, right ? 0 : 1, () -> press.decode(1));
                dueSlice("the part " + i + " with " + checksum, press, 0, right ? 'n' : 's', right ? 1 : 0);
            }
        }
    }

    private void theChecksumOfALongPart() {
        int[] part = new int[370];
        Arrays.fill(part, 255);
        PixelPress press = Streams.press(Streams.coded(8, 8, ONE, part));
        // The sum is 255 * 370 * 371 / 2 = 17501925.
        press.setByte(7, 197);
        check.due("decode", 0, () -> press.decode(1));
        press.setByte(7, 198);
        check.due("decode with another checksum", 1, () -> press.decode(1));
    }

    // ---- headers ----

    private void dueHeader(boolean valid, int... bytes) {
        PixelPress press = Streams.press(bytes);
        String what = "the header " + Arrays.toString(bytes);
        for (int layers = 1; layers <= 3; layers++) {
            int asked = layers;
            check.due(what, valid ? String.valueOf((bytes[2] + 7) / 8) : BAD_STATE, () -> press.decode(asked));
        }
        if (valid) {
            check.due(what + ": width", bytes[1], press::decodedWidth);
            check.due(what + ": height", bytes[2], press::decodedHeight);
            dueSlice(what, press, 0, 'e', 0);
            dueFlat(what, press, 0);
        }
    }

    private void aHeaderIsComplete() {
        int[][] whole = {{80, 8, 8, 1, 1}, {80, 8, 8, 2, 2, 1}, {80, 8, 8, 3, 3, 2, 1}, {82, 8, 8}};
        for (int[] header : whole) {
            dueHeader(true, header);
            for (int size = 0; size < header.length; size++) {
                dueHeader(false, Arrays.copyOf(header, size));
            }
        }
    }

    private void theSizesOfAHeaderAreThoseOfAPicture() {
        for (int[] size : new int[][] {{1, 1}, {16, 1}, {1, 24}, {16, 24}, {8, 9}}) {
            dueHeader(true, 80, size[0], size[1], 1, 1);
            dueHeader(true, 82, size[0], size[1]);
        }
        for (int[] size : new int[][] {{0, 1}, {17, 1}, {1, 0}, {1, 25}, {16, 25}, {17, 24}, {0, 0}, {255, 255}}) {
            dueHeader(false, 80, size[0], size[1], 1, 1);
            dueHeader(false, 82, size[0], size[1]);
        }
    }

    private void theFirstByteIs80Or82() {
        for (int first = 0; first < 256; first++) {
            dueHeader(first == 80 || first == 82, first, 8, 8, 1, 1);
        }
    }

    private void theLayersOfAHeaderAreOneToThree() {
        dueHeader(false, 80, 8, 8, 0, 4, 3, 2, 1);
        dueHeader(false, 80, 8, 8, 4, 4, 3, 2, 1);
        dueHeader(false, 80, 8, 8, 255, 4, 3, 2, 1);
    }

    private void theStepsOfAHeaderAreOneTo32AndFall() {
        int[][] valid = {{1}, {32}, {2, 1}, {32, 31}, {32, 1}, {3, 2, 1}, {32, 31, 30}, {32, 2, 1}};
        for (int[] steps : valid) {
            dueHeader(true, Streams.coded(8, 8, steps));
        }
        int[][] others = {{0}, {33}, {255}, {33, 1}, {1, 0}, {5, 0}, {5, 5}, {5, 6}, {32, 33}, {0, 1}, {3, 2, 0},
            {3, 2, 2}, {3, 2, 3}, {3, 3, 2}, {3, 0, 1}, {0, 2, 1}, {33, 32, 31}, {2, 1, 0}, {3, 1, 2}, {1, 0, 0}};
        for (int[] steps : others) {
            dueHeader(false, Streams.coded(8, 8, steps));
        }
    }

    // ---- where a stream ends, and which part is wrong ----

    private static PixelPress ofNineParts() {
        PixelPress press = new PixelPress();
        press.resize(3, 17);
        press.ramp(31, 9, 5);
        press.setSteps(20, 6, 1);
        press.encode();
        return press;
    }

    /** How many of the asked layers of a slice end at or ahead of this index. */
    private static int wholeLayers(int[] ends, int slice, int size, int asked) {
        int layers = 0;
        while (layers < asked && ends[layers * 3 + slice] <= size) {
            layers++;
        }
        return layers;
    }

    private void aStreamMayEndAtEachByte() {
        PixelPress press = ofNineParts();
        int[] ends = new int[9];
        for (int part = 0; part < 9; part++) {
            ends[part] = Streams.partStart(press, part + 1 < 9 ? part + 1 : 0);
        }
        ends[8] = press.size();
        for (int size = press.size(); size >= 7; size--) {
            press.cut(size);
            for (int layers = 1; layers <= 3; layers++) {
                int asked = layers;
                int faulty = 0;
                for (int slice = 0; slice < 3; slice++) {
                    faulty += wholeLayers(ends, slice, size, asked) < asked ? 1 : 0;
                }
                check.due("decode of " + size + " bytes", faulty, () -> press.decode(asked));
                for (int slice = 0; slice < 3; slice++) {
                    int whole = wholeLayers(ends, slice, size, asked);
                    dueSlice(size + " bytes", press, slice, whole < asked ? 'e' : 'n', whole);
                    if (whole == 0) {
                        duePixel(size + " bytes", press, 0, slice * 8, 0);
                    }
                }
            }
        }
    }

    /** Even if the bytes that the cut part would have look like whole parts. */
    private void allPartsBehindACutOneAreCut() {
        for (int layers = 1; layers <= 2; layers++) {
            int[] header = layers == 1 ? new int[] {80, 8, 24, 1, 1} : new int[] {80, 8, 24, 2, 2, 1};
            int[] stream = Arrays.copyOf(header, header.length + 8 * 5);
            int[] whole = {0, 2, 32, 0, 16};
            for (int i = header.length; i < stream.length; i++) {
                stream[i] = whole[(i - header.length) % 5];
            }
            PixelPress press = Streams.press(stream);
            check.due("decode of whole parts", 0, () -> press.decode(3));
            // The part of the slice 1 in the layer 0 seems to have more bytes than there are behind it.
            press.setByte(header.length + 5 + 1, 200);
            check.due("decode with a cut part", layers == 1 ? 2 : 3, () -> press.decode(3));
            dueSlice("ahead of a cut part", press, 0, layers == 1 ? 'n' : 'e', 1);
            dueSlice("a cut part", press, 1, 'e', 0);
            dueSlice("behind a cut part", press, 2, 'e', 0);
        }
    }

    private void eachPartMayBeWrong() {
        for (int part = 0; part < 9; part++) {
            int layer = part / 3;
            int spoiled = part % 3;
            PixelPress press = ofNineParts();
            int checksum = Streams.partStart(press, part) + 2;
            press.setByte(checksum, (press.byteAt(checksum) + 1) % 251);
            for (int layers = 1; layers <= 3; layers++) {
                int asked = layers;
                boolean seen = layer < asked;
                check.due("decode of " + layers, seen ? 1 : 0, () -> press.decode(asked));
                for (int slice = 0; slice < 3; slice++) {
                    boolean hit = seen && slice == spoiled;
                    dueSlice("the part " + part, press, slice, hit ? 's' : 'n', hit ? layer : asked);
                }
            }
        }
    }

    private void theFirstFaultOfASliceIsTold() {
        PixelPress press = ofNineParts();
        int wrong = Streams.partStart(press, 3) + 2;
        press.setByte(wrong, (press.byteAt(wrong) + 1) % 251);
        press.cut(Streams.partStart(press, 6));
        check.due("decode", 3, () -> press.decode(3));
        // The slice 0 is wrong in the layer 1 and cut in the layer 2, the others are cut there alone.
        dueSlice("wrong, then cut", press, 0, 's', 1);
        dueSlice("cut", press, 1, 'e', 2);
        dueSlice("cut", press, 2, 'e', 2);
        check.due("decode of two layers", 1, () -> press.decode(2));
        dueSlice("two layers", press, 0, 's', 1);
        dueSlice("two layers", press, 1, 'n', 2);
        check.due("decode of one layer", 0, () -> press.decode(1));
    }

    private void aPlainStreamMayEndAtEachByte() {
        for (int height : new int[] {1, 8, 9, 16, 17, 24}) {
            PixelPress press = new PixelPress();
            press.resize(3, height);
            press.fill(0, 0, 3, height, 200);
            int full = press.encodePlain();
            int slices = (height + 7) / 8;
            for (int size = full; size >= 3; size--) {
                press.cut(size);
                int faulty = 0;
                for (int slice = 0; slice < slices; slice++) {
                    faulty += 3 + 3 * Math.min(height, slice * 8 + 8) > size ? 1 : 0;
                }
                int asked = 1 + size % 3;
                int want = faulty;
                check.due("decode of " + size + " plain bytes", want, () -> press.decode(asked));
                for (int slice = 0; slice < slices; slice++) {
                    boolean whole = slice < slices - faulty;
                    dueSlice(size + " plain bytes", press, slice, whole ? 'n' : 'e', whole ? 1 : 0);
                    duePixel(size + " plain bytes", press, 0, slice * 8, whole ? 200 : 0);
                    duePixel(size + " plain bytes", press, 2, Math.min(height, slice * 8 + 8) - 1, whole ? 200 : 0);
                }
            }
        }
    }

    private void bytesBehindTheStreamHaveNoMeaning() {
        int[] part = new Part().flatTile('d', 99).bytes();
        int[] stream = Streams.coded(8, 8, ONE, part);
        for (int more = 0; more < 5; more++) {
            int[] longer = Arrays.copyOf(stream, stream.length + more);
            Arrays.fill(longer, stream.length, longer.length, 255);
            PixelPress press = Streams.press(longer);
            check.due("decode with further bytes", 0, () -> press.decode(1));
            dueFlat("further bytes", press, 99);
        }
        for (int more = 0; more < 3; more++) {
            PixelPress plain = Streams.press(Arrays.copyOf(new int[] {82, 1, 1, 33, 80, 80}, 4 + more));
            check.due("decode of plain with further bytes", 0, () -> plain.decode(1));
            dueFlat("plain with further bytes", plain, 33);
        }
    }

    public static void main(String[] args) {
        PartTest test = new PartTest();
        test.levelsHaveOneToTwelveDigits();
        test.aTileMayBeFullOfTheGreatestLevels();
        test.aTileMayBeFullOfFourBlocks();
        test.aBitIsZeroUpToTheSplit();
        test.bitsBehindTheEndAreZero();
        test.aPartMayHaveNoByteOrOne();
        test.predictionsBelowZeroAreRoundedDown();
        test.neighboursAreZeroWhereThereAreNone();
        test.undoneSplitsAreRoundedDown();
        test.sumsAreHeldBetween0And255();
        test.onlyTheWholeSumIsHeld();
        test.theStepMultipliesTheLevels();
        test.sizesPassTheirFirstByte();
        test.theGreatestSizeIsCut();
        test.theChecksumIsTheRemainderBy251();
        test.theChecksumOfALongPart();
        test.aHeaderIsComplete();
        test.theSizesOfAHeaderAreThoseOfAPicture();
        test.theFirstByteIs80Or82();
        test.theLayersOfAHeaderAreOneToThree();
        test.theStepsOfAHeaderAreOneTo32AndFall();
        test.aStreamMayEndAtEachByte();
        test.allPartsBehindACutOneAreCut();
        test.eachPartMayBeWrong();
        test.theFirstFaultOfASliceIsTold();
        test.aPlainStreamMayEndAtEachByte();
        test.bytesBehindTheStreamHaveNoMeaning();
        test.check.end();
    }
}
