import java.util.Arrays;

/**
 * The edges in the terms of coding: the picture beyond its last column and row, the layers, the prediction and its
 * ties, the transform, the size of blocks, and the coder. What is due here was worked out by hand, but for the streams
 * of the coder, which a further writing of the document, in another language, gave.
 */
public final class CodingTest {
    private static final int[] PATTERN = {10, 90, 30, 200};

    private final Check check = new Check();

    /** A new object with a picture of these rows. */
    private static PixelPress pictureOf(int[]... rows) {
        PixelPress press = new PixelPress();
        press.resize(rows[0].length, rows.length);
        for (int y = 0; y < rows.length; y++) {
            for (int x = 0; x < rows[y].length; x++) {
                press.set(x, y, rows[y][x]);
            }
        }
        return press;
    }

    private static int[][] flat(int value) {
        return rowsOf(value, value, value, value);
    }

    /** Four rows that are the same. */
    private static int[][] rowsOf(int... row) {
        return new int[][] {row, row, row, row};
    }

    /** Four columns that are the same. */
    private static int[][] columnsOf(int... column) {
        int[][] rows = new int[4][4];
        for (int y = 0; y < 4; y++) {
            Arrays.fill(rows[y], column[y]);
        }
        return rows;
    }

    private static PixelPress tileOf(int[][] topLeft, int[][] topRight, int[][] bottomLeft, int[][] bottomRight) {
        int[][] rows = new int[8][8];
        for (int y = 0; y < 4; y++) {
            System.arraycopy(topLeft[y], 0, rows[y], 0, 4);
            System.arraycopy(topRight[y], 0, rows[y], 4, 4);
            System.arraycopy(bottomLeft[y], 0, rows[4 + y], 0, 4);
            System.arraycopy(bottomRight[y], 0, rows[4 + y], 4, 4);
        }
        PixelPress press = pictureOf(rows);
        press.encode();
        return press;
    }

    private void dueBlock(String what, PixelPress press, int layer, int x, int y, int size, char mode, int cost) {
        check.due(what + ": size of the block at " + x + ", " + y, size, () -> press.blockSize(layer, x, y));
        check.due(what + ": mode of it", mode, () -> press.mode(layer, x, y));
        check.due(what + ": cost of it", cost, () -> press.cost(layer, x, y));
    }

    /** The levels of a block, row by row; what is not told of a row is 0. */
    private void dueLevels(String what, PixelPress press, int layer, int left, int top, int[]... rows) {
        int size = press.blockSize(layer, left, top);
        for (int y = 0; y < size; y++) {
            for (int x = 0; x < size; x++) {
                int column = left + x;
                int row = top + y;
                int want = y < rows.length && x < rows[y].length ? rows[y][x] : 0;
                check.due(what + ": level at " + column + ", " + row, want, () -> press.level(layer, column, row));
            }
        }
    }

    // ---- the picture is extended by repeating its last column and then its last row ----

    private static PixelPress noisy(int width, int height, int extendedWidth, int extendedHeight) {
        int[][] rows = new int[extendedHeight][extendedWidth];
        for (int y = 0; y < extendedHeight; y++) {
            for (int x = 0; x < extendedWidth; x++) {
                int column = Math.min(x, width - 1);
                int row = Math.min(y, height - 1);
                rows[y][x] = (column * column * 37 + row * row * 11 + column * row * 5 + 3) % 256;
            }
        }
        PixelPress press = pictureOf(rows);
        press.setSteps(9, 2, 0);
        press.encode();
        return press;
    }

    private void thePictureIsExtendedToTiles() {
        for (int width : new int[] {1, 7, 8, 9, 15, 16}) {
            for (int height : new int[] {1, 7, 8, 9, 15, 16, 17, 23, 24}) {
                PixelPress press = noisy(width, height, width, height);
                PixelPress full = noisy(width, height, width <= 8 ? 8 : 16, (height + 7) / 8 * 8);
                String what = width + " by " + height;
                check.due("the size of the stream of " + what, full.size(), press::size);
                // Behind the width and the height the streams are the same.
                for (int i = 3; i < full.size(); i++) {
                    int index = i;
                    check.due("byte " + i + " of " + what, full.byteAt(index), () -> press.byteAt(index));
                }
                check.due("the blocks of " + what, full.blocks(1), () -> press.blocks(1));
            }
        }
    }

    // ---- the target of each layer but the first is what the layers before have left ----

    private void aLayerCodesWhatIsLeft() {
        PixelPress press = new PixelPress();
        press.resize(16, 8);
        press.fill(0, 0, 16, 8, 200);
        press.setSteps(32, 5, 1);
        press.encode();
        // 200 is 6 * 32 and 8; that is 5 and 3. The right tile sees the result of its own layer at its left.
        int[] levels = {6, 1, 3};
        int[] costs = {4 + 2 * 3, 4 + 2, 4 + 2 * 2};
        for (int layer = 0; layer < 3; layer++) {
            String what = "layer " + layer;
            dueBlock(what, press, layer, 0, 0, 8, 'd', costs[layer]);
            dueLevels(what, press, layer, 0, 0, new int[] {levels[layer]});
            dueBlock(what, press, layer, 8, 0, 8, 'h', 4);
            dueLevels(what, press, layer, 8, 0);
        }
    }

    // ---- the neighbours ----

    private void theUpperNeighboursAreThoseDirectlyAbove() {
        int[][] top = {{0, 0, 0, 0}, {0, 0, 0, 0}, {0, 0, 0, 0}, PATTERN};
        PixelPress press = tileOf(top, flat(0), rowsOf(PATTERN), rowsOf(PATTERN));
        dueBlock("below a pattern", press, 0, 0, 4, 4, 'v', 4);
        dueLevels("below a pattern", press, 0, 0, 4);
    }

    private void theLeftNeighboursAreThoseDirectlyLeft() {
        int[][] left = {{0, 0, 0, 10}, {0, 0, 0, 90}, {0, 0, 0, 30}, {0, 0, 0, 200}};
        PixelPress press = tileOf(left, columnsOf(PATTERN), flat(0), flat(0));
        dueBlock("beside a pattern", press, 0, 4, 0, 4, 'h', 4);
        dueLevels("beside a pattern", press, 0, 4, 0);
    }

    private void theLeftNeighboursOfATileAreInTheTileBeforeIt() {
        int[] column = {10, 90, 30, 200, 0, 255, 17, 99};
        int[][] rows = new int[8][16];
        for (int y = 0; y < 8; y++) {
            Arrays.fill(rows[y], 7, 16, column[y]);
        }
        PixelPress press = pictureOf(rows);
        press.encode();
        dueBlock("beside a tile", press, 0, 8, 0, 8, 'h', 4);
        dueLevels("beside a tile", press, 0, 8, 0);
    }

    private void theNeighboursInAnotherSliceAreZero() {
        int[][] rows = new int[16][8];
        for (int y = 0; y < 16; y++) {
            Arrays.fill(rows[y], 100);
        }
        PixelPress press = pictureOf(rows);
        press.encode();
        for (int y = 0; y < 16; y += 8) {
            dueBlock("each slice", press, 0, 0, y, 8, 'd', 4 + 2 * 7);
            dueLevels("each slice", press, 0, 0, y, new int[] {100});
        }
    }

    // ---- the four modes, and the first one of several ----

    private void dIsTheSumByTwiceTheSizeOfFour() {
        // (4 * 7 + 4 * 255) / 8 = 131, which 'a' gives, too.
        PixelPress press = tileOf(flat(80), flat(255), flat(7), flat(131));
        dueBlock("d of four", press, 0, 4, 4, 4, 'd', 4);
        dueLevels("d of four", press, 0, 4, 4);
    }

    private void dIsTheSumByTwiceTheSizeOfEight() {
        // 8 * 100 / 16 = 50 and 8 * 101 / 16 = 50.5, as 'a' gives, too.
        for (int left : new int[] {100, 101}) {
            PixelPress press = new PixelPress();
            press.resize(16, 8);
            press.fill(0, 0, 8, 8, left);
            press.fill(8, 0, 8, 8, 50);
            press.encode();
            dueBlock("d of eight", press, 0, 8, 0, 8, 'd', 4);
            dueLevels("d of eight", press, 0, 8, 0);
        }
    }

    private void aIsHalfOfBothRoundedDown() {
        int[] upper = {41, 60, 0, 100};
        int[] left = {0, 20, 41, 100};
        // Half of the sums of both, six of which are odd.
        int[][] half = {{20, 30, 0, 50}, {30, 40, 10, 60}, {41, 50, 20, 70}, {70, 80, 50, 100}};
        PixelPress press = tileOf(flat(0), rowsOf(upper), columnsOf(left), half);
        dueBlock("a", press, 0, 4, 4, 4, 'a', 4);
        dueLevels("a", press, 0, 4, 4);
    }

    private void dComesFirstOfAll() {
        PixelPress press = new PixelPress();
        press.encode();
        dueBlock("all four modes", press, 0, 0, 0, 8, 'd', 4);
    }

    private void dComesBeforeH() {
        // 75 lies between 50, which is d, and 100, which is h; v is 0.
        PixelPress press = new PixelPress();
        press.resize(16, 8);
        press.fill(0, 0, 8, 8, 100);
        press.fill(8, 0, 8, 8, 75);
        press.encode();
        dueBlock("d and h", press, 0, 8, 0, 8, 'd', 4 + 2 * 5);
        // 76 is nearer to h.
        press.fill(8, 0, 8, 8, 76);
        press.encode();
        dueBlock("h alone", press, 0, 8, 0, 8, 'h', 4 + 2 * 5);
    }

    private void dComesBeforeV() {
        // The patterns at the right make four blocks of the tile.
        PixelPress press = tileOf(flat(100), rowsOf(PATTERN), flat(75), rowsOf(PATTERN));
        dueBlock("d and v", press, 0, 0, 4, 4, 'd', 4 + 2 * 5);
        PixelPress other = tileOf(flat(100), rowsOf(PATTERN), flat(76), rowsOf(PATTERN));
        dueBlock("v alone", other, 0, 0, 4, 4, 'v', 4 + 2 * 5);
    }

    private void hComesBeforeVAndA() {
        // Where the target is the greater neighbour, h, v and a are apart from it by 3 * 90 together; d is 32.
        int[] edge = {10, 10, 10, 100};
        int[][] greater = {edge, edge, edge, {100, 100, 100, 100}};
        PixelPress press = tileOf(flat(200), rowsOf(edge), columnsOf(edge), greater);
        check.due("h, v and a", 'h', () -> press.mode(0, 4, 4));
        check.due("the block of h, v and a", 4, () -> press.blockSize(0, 4, 4));
    }

    private void hComesBeforeA() {
        // In each column h is apart by 0, 5, 0 and 20, a by 5, 0, 20 and 0, d by 3, 8, 27 and 7.
        PixelPress press = tileOf(flat(200), flat(60), columnsOf(50, 50, 20, 20), columnsOf(50, 55, 20, 40));
        check.due("h and a", 'h', () -> press.mode(0, 4, 4));
        dueLevels("h and a", press, 0, 4, 4, new int[] {6}, new int[] {-8}, new int[] {-5, -5}, new int[] {-20, -20});
    }

    private void vComesBeforeA() {
        PixelPress press = tileOf(flat(200), rowsOf(50, 50, 20, 20), flat(60), rowsOf(50, 55, 20, 40));
        check.due("v and a", 'v', () -> press.mode(0, 4, 4));
        dueLevels("v and a", press, 0, 4, 4, new int[] {6, -8, -5, -20}, new int[] {0, 0, -5, -20});
    }

    private void dIsRoundedDownBelowZero() {
        PixelPress press = new PixelPress();
        press.ramp(5, 0, 3);
        press.setSteps(5, 2, 0);
        press.encode();
        // Above the lower left block of the layer 1 lies -1 four times: -4 / 8 is -1, and h, which is 0, is nearer.
        dueBlock("d below zero", press, 1, 0, 4, 4, 'h', 12);
        dueStream("d below zero", press, 80, 8, 8, 2, 5, 2, 0, 5, 179, 21, 17, 8, 38, 90, 0, 7, 165, 152, 54, 153, 206,
                246, 169, 128);
    }

    private void aIsRoundedDownBelowZero() {
        PixelPress press = new PixelPress();
        press.ramp(32, 3, 4);
        press.setSteps(3, 1, 0);
        press.encode();
        // The rows of the upper right block of the layer 1 are -1, 0, 1 and 2, and its left neighbours -2, -1, 0 and 1.
        // Half of these are -1, -1, 0 and 0, and so no nearer to it than h.
        dueBlock("a below zero", press, 1, 4, 0, 4, 'h', 6);
        dueLevels("a below zero", press, 1, 4, 0, new int[] {1});
        dueStream("a below zero", press, 80, 8, 8, 2, 3, 1, 0, 16, 44, 151, 110, 111, 198, 143, 80, 17, 186, 232, 88,
                214, 77, 136, 194, 61, 26, 0, 9, 32, 152, 158, 199, 160, 197, 210, 131, 65, 158);
    }

    // ---- the transform and the levels ----

    private void quotientsOfTheTransformAreRoundedDown() {
        PixelPress press = new PixelPress();
        press.set(1, 0, 5);
        press.encode();
        // 0, 5 gives 2 and -5; -5, 0 below it gives -3 and -5.
        dueBlock("a spot", press, 0, 0, 0, 8, 'd', 4 + 2 * (1 + 2 + 2 + 3));
        dueLevels("a spot", press, 0, 0, 0, new int[] {0, 0, 0, 0, -3}, new int[0], new int[] {0, 0, 1}, new int[0],
                new int[] {2, 0, 0, 0, -5});
        check.due("decode", 0, () -> press.decode(1));
        check.due("isSame", true, press::isSame);
    }

    private void levelsAreRoundedTowardZero() {
        PixelPress press = new PixelPress();
        press.set(1, 0, 5);
        press.setSteps(2, 0, 0);
        press.encode();
        // 1, 2, -3 and -5 by 2.
        dueLevels("by 2", press, 0, 0, 0, new int[] {0, 0, 0, 0, -1}, new int[0], new int[0], new int[0],
                new int[] {1, 0, 0, 0, -2});
        dueBlock("by 2", press, 0, 0, 0, 8, 'd', 4 + 2 * (1 + 1 + 2));
        press.setSteps(3, 0, 0);
        press.encode();
        dueLevels("by 3", press, 0, 0, 0, new int[] {0, 0, 0, 0, -1}, new int[0], new int[0], new int[0],
                new int[] {0, 0, 0, 0, -1});
        press.setSteps(5, 0, 0);
        press.encode();
        dueLevels("by 5", press, 0, 0, 0, new int[0], new int[0], new int[0], new int[0],
                new int[] {0, 0, 0, 0, -1});
        press.setSteps(6, 0, 0);
        press.encode();
        dueLevels("by 6", press, 0, 0, 0);
        dueBlock("by 6", press, 0, 0, 0, 8, 'd', 4);
    }

    // ---- the cost and the size of blocks ----

    private void theCostCountsBinaryDigits() {
        for (int value = 0; value < 256; value++) {
            PixelPress press = new PixelPress();
            press.fill(0, 0, 8, 8, value);
            press.encode();
            int digits = value == 0 ? 0 : Integer.toBinaryString(value).length();
            dueBlock("the level " + value, press, 0, 0, 0, 8, 'd', 4 + 2 * digits);
        }
    }

    private void theCostCountsNineDigitsAndNegativeLevels() {
        PixelPress press = new PixelPress();
        press.set(0, 0, 255);
        press.set(1, 1, 255);
        press.encode();
        dueLevels("two spots", press, 0, 0, 0, new int[] {31, 63}, new int[] {63, 127}, new int[] {0, 0, 510});
        dueBlock("two spots", press, 0, 0, 0, 4, 'd', 4 + 2 * (5 + 6 + 6 + 7 + 9));
        press.fill(0, 0, 2, 2, 0);
        press.set(1, 0, 255);
        press.set(0, 1, 255);
        press.encode();
        dueLevels("two other spots", press, 0, 0, 0, new int[] {31, 63}, new int[] {63, 127}, new int[] {0, 0, -510});
        dueBlock("two other spots", press, 0, 0, 0, 4, 'd', 4 + 2 * (5 + 6 + 6 + 7 + 9));
    }

    private void fourBlocksMustCostLess() {
        // The four cost 86 then, as much as the one.
        PixelPress press = new PixelPress();
        press.set(4, 0, 127);
        press.encode();
        check.due("blocks of the same cost", 1, () -> press.blocks(0));
        dueBlock("the same cost", press, 0, 4, 0, 8, 'd', 86);
        press.set(4, 0, 64);
        press.encode();
        check.due("blocks of a greater cost", 1, () -> press.blocks(0));
        dueBlock("a greater cost", press, 0, 4, 0, 8, 'd', 84);
        press.set(4, 0, 128);
        press.encode();
        check.due("blocks of less cost", 4, () -> press.blocks(0));
        dueBlock("less cost", press, 0, 4, 0, 4, 'd', 88);
        dueBlock("less cost", press, 0, 0, 0, 4, 'd', 4);
    }

    private void fourBlocksMayCostLessByTwo() {
        PixelPress press = new PixelPress();
        press.fill(0, 3, 1, 3, 127);
        press.encode();
        // The one block would cost 142.
        check.due("blocks", 4, () -> press.blocks(0));
        int[][] costs = {{0, 0, 74}, {4, 0, 4}, {0, 4, 58}, {4, 4, 4}};
        for (int[] block : costs) {
            check.due("cost", block[2], () -> press.cost(0, block[0], block[1]));
        }
    }

    // ---- the coder ----

    private void dueStream(String what, PixelPress press, int... bytes) {
        check.due(what + ": size", bytes.length, press::size);
        for (int i = 0; i < Math.min(bytes.length, press.size()); i++) {
            int index = i;
            check.due(what + ": byte " + i, bytes[i], () -> press.byteAt(index));
        }
    }

    /** The stream of a ramp of 8 rows, and that it can be read again. */
    private void dueCoded(String what, int[] ramp, int width, int step, int... bytes) {
        PixelPress press = new PixelPress();
        press.resize(width, 8);
        press.ramp(ramp[0], ramp[1], ramp[2]);
        press.setSteps(step, 0, 0);
        press.encode();
        dueStream(what, press, bytes);
        check.due(what + ": decode", 0, () -> press.decode(1));
        check.due(what + ": greatestError is small", true, () -> press.greatestError() <= 8 * step);
    }

    private static int[] ramp(int... numbers) {
        return numbers;
    }

    private void theOffsetIs0IfHighIsLessThan32768() {
        dueCoded("high 32767", ramp(0, 0, 0), 8, 1, 80, 8, 8, 1, 1, 0, 2, 32, 0, 16);
        dueCoded("high 32768", ramp(93, 6, 8), 16, 8, 80, 16, 8, 1, 8, 0, 18, 59, 151, 109, 118, 164, 15, 94, 178, 94,
                150, 201, 178, 186, 153, 120, 80, 23, 82, 80);
    }

    private void theOffsetIs32768IfLowIsThatMuch() {
        dueCoded("low 32768", ramp(1, 0, 0), 8, 1, 80, 8, 8, 1, 1, 0, 2, 20, 16, 2);
        dueCoded("low 32768 below 49152", ramp(0, 0, 94), 8, 8, 80, 8, 8, 1, 8, 0, 15, 51, 151, 18, 146, 45, 217, 182,
                1, 154, 129, 72, 114, 116, 198, 245, 208);
        dueCoded("low 32767", ramp(122, 0, 11), 8, 2, 80, 8, 8, 1, 2, 0, 14, 129, 151, 225, 74, 92, 246, 58, 106, 252,
                7, 83, 159, 114, 108, 160);
        dueCoded("low 32767 below 49152", ramp(253, 6, 5), 8, 32, 80, 8, 8, 1, 32, 0, 7, 153, 16, 149, 99, 19, 98,
                135, 240);
    }

    private void theOffsetIs16384IfLowIsThatMuchAndHighLessThan49152() {
        dueCoded("low 16384", ramp(233, 7, 0), 8, 16, 80, 8, 8, 1, 16, 0, 4, 10, 23, 12, 139, 12);
        dueCoded("low 16383", ramp(0, 236, 0), 8, 3, 80, 8, 8, 1, 3, 0, 17, 160, 151, 214, 250, 6, 230, 112, 185, 255,
                31, 77, 109, 145, 207, 94, 14, 225, 128);
        dueCoded("high 49151", ramp(234, 6, 1), 8, 16, 80, 8, 8, 1, 16, 0, 9, 174, 22, 242, 248, 1, 58, 83, 91, 139,
                128);
        dueCoded("high 49152", ramp(82, 95, 0), 16, 3, 80, 16, 8, 1, 3, 0, 31, 69, 151, 192, 198, 236, 169, 24, 201,
                83, 103, 31, 255, 17, 189, 80, 37, 100, 125, 192, 97, 28, 243, 181, 182, 152, 18, 17, 190, 62, 41, 245,
                48);
    }

    private void asManyOppositeBitsAsArePendingFollow() {
        dueCoded("one bit pending", ramp(0, 1, 0), 8, 3, 80, 8, 8, 1, 3, 0, 3, 226, 19, 85, 96);
        dueCoded("two bits pending", ramp(0, 0, 1), 8, 3, 80, 8, 8, 1, 3, 0, 3, 194, 16, 65, 16);
        dueCoded("eight bits pending", ramp(252, 0, 1), 8, 8, 80, 8, 8, 1, 8, 0, 4, 148, 23, 113, 0, 163);
        dueCoded("nine bits pending", ramp(243, 8, 0), 8, 16, 80, 8, 8, 1, 16, 0, 6, 104, 150, 243, 142, 110, 0, 18);
    }

    private void theLastBitIsZeroIfLowIsLessThan16384() {
        dueCoded("a 0 at the end", ramp(0, 0, 0), 8, 1, 80, 8, 8, 1, 1, 0, 2, 32, 0, 16);
        dueCoded("a 1 at the end", ramp(1, 3, 1), 16, 16, 80, 16, 8, 1, 16, 0, 3, 196, 0, 14, 56);
        dueCoded("low 16384 at the end", ramp(252, 1, 0), 8, 5, 80, 8, 8, 1, 5, 0, 5, 216, 23, 167, 69, 44, 96);
    }

    private void theLastByteIsFilledWithZeros() {
        dueCoded("no bit is left", ramp(0, 0, 0), 16, 1, 80, 16, 8, 1, 1, 0, 2, 2, 0, 1);
        dueCoded("a byte of one bit", ramp(2, 0, 0), 8, 1, 80, 8, 8, 1, 1, 0, 3, 153, 20, 0, 128);
        dueCoded("a byte of seven bits", ramp(1, 0, 0), 8, 1, 80, 8, 8, 1, 1, 0, 2, 20, 16, 2);
    }

    private void countsAreHalvedAbove64() {
        dueCoded("two flat tiles", ramp(6, 0, 0), 16, 32, 80, 16, 8, 1, 32, 0, 2, 2, 0, 1);
        dueCoded("not at 64", ramp(3, 5, 0), 16, 32, 80, 16, 8, 1, 32, 0, 3, 50, 0, 12, 176);
        dueCoded("at 65", ramp(232, 0, 6), 16, 32, 80, 16, 8, 1, 32, 0, 4, 147, 21, 15, 176, 143);
    }

    private void halvedCountsAreRoundedUp() {
        dueCoded("an odd count of zeros", ramp(1, 0, 8), 16, 32, 80, 16, 8, 1, 32, 0, 5, 146, 1, 227, 137, 162, 128);
        dueCoded("an odd count of ones", ramp(203, 4, 0), 16, 32, 80, 16, 8, 1, 32, 0, 7, 221, 22, 128, 30, 98, 22, 63,
                176);
    }

    private void countsBeginAnewWithEachPart() {
        PixelPress press = new PixelPress();
        press.resize(8, 24);
        press.fill(0, 0, 8, 24, 4);
        press.encode();
        for (int slice = 0; slice < 3; slice++) {
            int from = 5 + slice * 6;
            int[] part = {0, 3, 118, 22, 0, 32};
            for (int i = 0; i < 6; i++) {
                int index = from + i;
                check.due("byte " + index + " of three slices", part[i], () -> press.byteAt(index));
            }
        }
        check.due("size of three slices", 23, press::size);
    }

    public static void main(String[] args) {
        CodingTest test = new CodingTest();
        test.thePictureIsExtendedToTiles();
        test.aLayerCodesWhatIsLeft();
        test.theUpperNeighboursAreThoseDirectlyAbove();
        test.theLeftNeighboursAreThoseDirectlyLeft();
        test.theLeftNeighboursOfATileAreInTheTileBeforeIt();
        test.theNeighboursInAnotherSliceAreZero();
        test.dIsTheSumByTwiceTheSizeOfFour();
        test.dIsTheSumByTwiceTheSizeOfEight();
        test.aIsHalfOfBothRoundedDown();
        test.dComesFirstOfAll();
        test.dComesBeforeH();
        test.dComesBeforeV();
        test.hComesBeforeVAndA();
        test.hComesBeforeA();
        test.vComesBeforeA();
        test.dIsRoundedDownBelowZero();
        test.aIsRoundedDownBelowZero();
        test.quotientsOfTheTransformAreRoundedDown();
        test.levelsAreRoundedTowardZero();
        test.theCostCountsBinaryDigits();
        test.theCostCountsNineDigitsAndNegativeLevels();
        test.fourBlocksMustCostLess();
        test.fourBlocksMayCostLessByTwo();
        test.theOffsetIs0IfHighIsLessThan32768();
        test.theOffsetIs32768IfLowIsThatMuch();
        test.theOffsetIs16384IfLowIsThatMuchAndHighLessThan49152();
        test.asManyOppositeBitsAsArePendingFollow();
        test.theLastBitIsZeroIfLowIsLessThan16384();
        test.theLastByteIsFilledWithZeros();
        test.countsAreHalvedAbove64();
        test.halvedCountsAreRoundedUp();
        test.countsBeginAnewWithEachPart();
        test.check.end();
    }
}
