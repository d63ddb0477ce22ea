import java.util.ArrayList;
import java.util.List;
import java.util.NoSuchElementException;

/**
 * The document once more, written for plainness and apart from the class under test: writing and reading a part are
 * two separate pieces of code, blocks are objects, and nothing is kept for another use.
 */
final class ReferencePress {
    private int[][] picture = new int[8][8];
    private int[] steps = {1};
    private List<Integer> stream = new ArrayList<>();
    private int[][] decoded = null;
    private char[] faults = {};
    private int[] used = {};
    private boolean replaced = false;
    private float lastRatio = 0;
    private List<LayerRecord> lastCoding = null;
    private int lastWidth;
    private int lastHeight;

    static final class BlockRecord {
        int x;
        int y;
        int size;
        int mode;
        int cost;
        int[][] levels;
    }

    static final class LayerRecord {
        final List<BlockRecord> blocks = new ArrayList<>();
        final List<Integer> partSizes = new ArrayList<>();

        BlockRecord blockAt(int x, int y) {
            for (BlockRecord b : blocks) {
                if (x >= b.x && x < b.x + b.size && y >= b.y && y < b.y + b.size) {
                    return b;
                }
            }
            throw new AssertionError("no block at " + x + ", " + y);
        }
    }

    int resize(int width, int height) {
        if (width < 1 || width > 16 || height < 1 || height > 24) {
            throw new IllegalArgumentException();
        }
        picture = new int[height][width];
        return width * height;
    }

    private void needPixel(int[][] of, int x, int y) {
        if (y < 0 || y >= of.length || x < 0 || x >= of[0].length) {
            throw new IndexOutOfBoundsException();
        }
    }

    private void needByte(int value) {
        if (value < 0 || value > 255) {
            throw new IllegalArgumentException();
        }
    }

    int set(int x, int y, int value) {
        needPixel(picture, x, y);
        needByte(value);
        int before = picture[y][x];
        picture[y][x] = value;
        return before;
    }

    int fill(int x, int y, int width, int height, int value) {
        needPixel(picture, x, y);
        needByte(value);
        if (width <= 0 || height <= 0 || (long) x + width > width() || (long) y + height > height()) {
            throw new IllegalArgumentException();
        }
        for (int j = 0; j < height; j++) {
            for (int i = 0; i < width; i++) {
                picture[y + j][x + i] = value;
            }
        }
        return width * height;
    }

    int ramp(int start, int right, int down) {
        needByte(start);
        needByte(right);
        needByte(down);
        for (int y = 0; y < height(); y++) {
            for (int x = 0; x < width(); x++) {
                picture[y][x] = (start + right * x + down * y) % 256;
            }
        }
        return picture[height() - 1][width() - 1];
    }

    int pixel(int x, int y) {
        needPixel(picture, x, y);
        return picture[y][x];
    }

    int width() {
        return picture[0].length;
    }

    int height() {
        return picture.length;
    }

    int setSteps(int first, int second, int third) {
        int[] all = {first, second, third};
        for (int step : all) {
            if (step != 0 && (step < 1 || step > 32)) {
                throw new IllegalArgumentException();
            }
        }
        if (first == 0 || second == 0 && third != 0) {
            throw new IllegalArgumentException();
        }
        if (second != 0 && second >= first || third != 0 && third >= second) {
            throw new IllegalArgumentException();
        }
        steps = second == 0 ? new int[] {first} : third == 0 ? new int[] {first, second} : all;
        return steps.length;
    }

    boolean isLossless() {
        return steps[steps.length - 1] == 1;
    }

    // ---- encoding ----

    int encode() {
        stream = new ArrayList<>(List.of(80, width(), height(), steps.length));
        for (int step : steps) {
            stream.add(step);
        }
        int extendedWidth = (width() + 7) / 8 * 8;
        int extendedHeight = (height() + 7) / 8 * 8;
        int[][] target = new int[extendedHeight][extendedWidth];
        for (int y = 0; y < extendedHeight; y++) {
            for (int x = 0; x < extendedWidth; x++) {
                target[y][x] = picture[Math.min(y, height() - 1)][Math.min(x, width() - 1)];
            }
        }
        lastCoding = new ArrayList<>();
        for (int step : steps) {
            LayerRecord record = new LayerRecord();
            int[][] results = new int[extendedHeight][extendedWidth];
            for (int top = 0; top < extendedHeight; top += 8) {
                List<List<BlockRecord>> tiles = new ArrayList<>();
                for (int left = 0; left < extendedWidth; left += 8) {
                    tiles.add(chooseBlocks(target, results, left, top, step));
                }
                for (List<BlockRecord> tile : tiles) {
                    record.blocks.addAll(tile);
                }
                List<Integer> bytes = bytesOf(tiles);
                record.partSizes.add(bytes.size());
                stream.add(bytes.size() / 256);
                stream.add(bytes.size() % 256);
                stream.add(checksum(bytes));
                stream.addAll(bytes);
            }
            for (int y = 0; y < extendedHeight; y++) {
                for (int x = 0; x < extendedWidth; x++) {
                    target[y][x] -= results[y][x];
                }
            }
            lastCoding.add(record);
        }
        remember();
        return stream.size();
    }

    int encodePlain() {
        stream = new ArrayList<>(List.of(82, width(), height()));
        for (int[] row : picture) {
            for (int value : row) {
                stream.add(value);
            }
        }
        lastCoding = null;
        remember();
        return stream.size();
    }

    private void remember() {
        replaced = true;
        lastWidth = width();
        lastHeight = height();
        lastRatio = (float) stream.size() / (float) (3 + width() * height());
    }

    private static int checksum(List<Integer> bytes) {
        long sum = 0;
        for (int i = 0; i < bytes.size(); i++) {
            sum += (i + 1L) * bytes.get(i);
        }
        return (int) (sum % 251);
    }

    private static List<BlockRecord> chooseBlocks(int[][] target, int[][] results, int left, int top, int step) {
        BlockRecord one = makeBlock(target, results, left, top, 8, step);
        int[][] ofOne = copy(results);
        List<BlockRecord> four = new ArrayList<>();
        int sum = 0;
        for (int[] offset : new int[][] {{0, 0}, {4, 0}, {0, 4}, {4, 4}}) {
            BlockRecord b = makeBlock(target, results, left + offset[0], top + offset[1], 4, step);
            four.add(b);
            sum += b.cost;
        }
        if (sum < one.cost) {
            return four;
        }
        for (int y = 0; y < results.length; y++) {
            System.arraycopy(ofOne[y], 0, results[y], 0, results[y].length);
        }
        return List.of(one);
    }

    private static int[][] copy(int[][] from) {
        int[][] to = new int[from.length][];
        for (int y = 0; y < from.length; y++) {
            to[y] = from[y].clone();
        }
        return to;
    }

    private static int[][] predict(int[][] results, int x, int y, int size, char mode) {
        int[] left = new int[size];
        int[] upper = new int[size];
        int sum = 0;
        for (int i = 0; i < size; i++) {
            left[i] = x == 0 ? 0 : results[y + i][x - 1];
            upper[i] = y % 8 == 0 ? 0 : results[y - 1][x + i];
            sum += left[i] + upper[i];
        }
        int[][] prediction = new int[size][size];
        for (int j = 0; j < size; j++) {
            for (int i = 0; i < size; i++) {
                prediction[j][i] = switch (mode) {
                    case 'd' -> Math.floorDiv(sum, 2 * size);
                    case 'h' -> left[j];
                    case 'v' -> upper[i];
                    default -> Math.floorDiv(left[j] + upper[i], 2);
                };
            }
        }
        return prediction;
    }

    private static BlockRecord makeBlock(int[][] target, int[][] results, int x, int y, int size, int step) {
        BlockRecord b = new BlockRecord();
        b.x = x;
        b.y = y;
        b.size = size;
        long least = Long.MAX_VALUE;
        for (int mode = 0; mode < 4; mode++) {
            int[][] prediction = predict(results, x, y, size, "dhva".charAt(mode));
            long sum = 0;
            for (int j = 0; j < size; j++) {
                for (int i = 0; i < size; i++) {
                    sum += Math.abs(target[y + j][x + i] - prediction[j][i]);
                }
            }
            if (sum < least) {
                least = sum;
                b.mode = mode;
            }
        }
        int[][] prediction = predict(results, x, y, size, "dhva".charAt(b.mode));
        int[][] work = new int[size][size];
        for (int j = 0; j < size; j++) {
            for (int i = 0; i < size; i++) {
                work[j][i] = target[y + j][x + i] - prediction[j][i];
            }
        }
        for (int n = size; n >= 2; n /= 2) {
            for (int row = 0; row < n; row++) {
                work[row] = splitLine(work[row], n);
            }
            for (int column = 0; column < n; column++) {
                setColumn(work, column, splitLine(column(work, column), n));
            }
        }
        b.cost = 4;
        b.levels = new int[size][size];
        for (int j = 0; j < size; j++) {
            for (int i = 0; i < size; i++) {
                int sign = work[j][i] < 0 ? -1 : 1;
                b.levels[j][i] = sign * (Math.abs(work[j][i]) / step);
                b.cost += 2 * binary(b.levels[j][i]).length();
            }
        }
        undo(b, results, step);
        return b;
    }

    private static String binary(int level) {
        return level == 0 ? "" : Integer.toBinaryString(Math.abs(level));
    }

    private static void undo(BlockRecord b, int[][] results, int step) {
        int[][] prediction = predict(results, b.x, b.y, b.size, "dhva".charAt(b.mode));
        int[][] work = copy(b.levels);
        for (int[] row : work) {
            for (int i = 0; i < row.length; i++) {
                row[i] *= step;
            }
        }
        for (int n = 2; n <= b.size; n *= 2) {
            for (int column = n - 1; column >= 0; column--) {
                setColumn(work, column, joinLine(column(work, column), n));
            }
            for (int row = n - 1; row >= 0; row--) {
                work[row] = joinLine(work[row], n);
            }
        }
        for (int j = 0; j < b.size; j++) {
            for (int i = 0; i < b.size; i++) {
                results[b.y + j][b.x + i] = work[j][i] + prediction[j][i];
            }
        }
    }

    private static int[] column(int[][] work, int column) {
        int[] line = new int[work.length];
        for (int row = 0; row < work.length; row++) {
            line[row] = work[row][column];
        }
        return line;
    }

    private static void setColumn(int[][] work, int column, int[] line) {
        for (int row = 0; row < work.length; row++) {
            work[row][column] = line[row];
        }
    }

    private static int[] splitLine(int[] line, int n) {
        int[] to = line.clone();
        for (int k = 0; k < n / 2; k++) {
            to[k] = Math.floorDiv(line[2 * k] + line[2 * k + 1], 2);
            to[n / 2 + k] = line[2 * k] - line[2 * k + 1];
        }
        return to;
    }

    private static int[] joinLine(int[] line, int n) {
        int[] to = line.clone();
        for (int k = 0; k < n / 2; k++) {
            int s = line[k];
            int d = line[n / 2 + k];
            to[2 * k] = s + Math.floorDiv(d + 1, 2);
            to[2 * k + 1] = to[2 * k] - d;
        }
        return to;
    }

    // ---- the coder ----

    /** The counts of the contexts, for both directions. */
    private static final class Counts {
        final int[][] of = new int[20][2];

        Counts() {
            for (int[] pair : of) {
                pair[0] = 1;
                pair[1] = 1;
            }
        }

        int[] get(int context) {
            return context < 0 ? new int[] {1, 1} : of[context];
        }

        void add(int context, int bit) {
            if (context < 0) {
                return;
            }
            int[] pair = of[context];
            pair[bit]++;
            if (pair[0] + pair[1] > 64) {
                pair[0] -= pair[0] / 2;
                pair[1] -= pair[1] / 2;
            }
        }
    }

    /** Package-visible, so that tests can write parts of their own. */
    static final class Coder {
        final Counts counts = new Counts();
        final StringBuilder bits = new StringBuilder();
        int low = 0;
        int high = 65535;
        int pending = 0;

        void put(int bit, int context) {
            int[] pair = counts.get(context);
            int split = low - 1 + (int) ((long) (high - low + 1) * pair[0] / (pair[0] + pair[1]));
            if (bit == 0) {
                high = split;
            } else {
                low = split + 1;
            }
            counts.add(context, bit);
            while (true) {
                int offset;
                if (high < 32768) {
                    offset = 0;
                    write('0');
                } else if (low >= 32768) {
                    offset = 32768;
                    write('1');
                } else if (low >= 16384 && high < 49152) {
                    offset = 16384;
                    pending++;
                } else {
                    return;
                }
                low = 2 * (low - offset);
                high = 2 * (high - offset) + 1;
            }
        }

        void write(char bit) {
            bits.append(bit);
            while (pending > 0) {
                bits.append(bit == '0' ? '1' : '0');
                pending--;
            }
        }

        List<Integer> end() {
            pending++;
            write(low < 16384 ? '0' : '1');
            while (bits.length() % 8 != 0) {
                bits.append('0');
            }
            List<Integer> bytes = new ArrayList<>();
            for (int i = 0; i < bits.length(); i += 8) {
                bytes.add(Integer.parseInt(bits.substring(i, i + 8), 2));
            }
            return bytes;
        }
    }

    private static int nonZero(int[][] levels, int row, int column) {
        if (row == 0 && column == 0) {
            return 4;
        }
        int context = 5;
        if (column > 0 && levels[row][column - 1] != 0) {
            context++;
        }
        if (row > 0 && levels[row - 1][column] != 0) {
            context++;
        }
        return context;
    }

    private static List<Integer> bytesOf(List<List<BlockRecord>> tiles) {
        Coder coder = new Coder();
        for (List<BlockRecord> tile : tiles) {
            coder.put(tile.size() == 4 ? 1 : 0, 0);
            for (BlockRecord b : tile) {
                putBlock(coder, b);
            }
        }
        return coder.end();
    }

    static void putBlock(Coder coder, BlockRecord b) {
        coder.put(b.mode / 2, 1);
        coder.put(b.mode % 2, 2 + b.mode / 2);
        for (int row = 0; row < b.size; row++) {
            for (int column = 0; column < b.size; column++) {
                putLevel(coder, b.levels[row][column], nonZero(b.levels, row, column));
            }
        }
    }

    private static void putLevel(Coder coder, int level, int context) {
        if (level == 0) {
            coder.put(0, context);
            return;
        }
        coder.put(1, context);
        coder.put(level < 0 ? 1 : 0, 8);
        String digits = binary(level);
        if (digits.length() > 12) {
            throw new AssertionError("a level of more than 12 digits: " + level);
        }
        for (int k = 1; k <= 11; k++) {
            int more = digits.length() > k ? 1 : 0;
            coder.put(more, 8 + k);
            if (more == 0) {
                break;
            }
        }
        for (int i = 1; i < digits.length(); i++) {
            coder.put(digits.charAt(i) - '0', -1);
        }
    }

    private static final class Decoder {
        final Counts counts = new Counts();
        final List<Integer> part;
        int next = 0;
        int low = 0;
        int high = 65535;
        int code = 0;

        Decoder(List<Integer> part) {
            this.part = part;
            for (int i = 0; i < 16; i++) {
                code = 2 * code + bit();
            }
        }

        int bit() {
            int at = next++;
            return at / 8 < part.size() ? part.get(at / 8) >> (7 - at % 8) & 1 : 0;
        }

        int get(int context) {
            int[] pair = counts.get(context);
            int split = low - 1 + (int) ((long) (high - low + 1) * pair[0] / (pair[0] + pair[1]));
            int bit = code > split ? 1 : 0;
            if (bit == 0) {
                high = split;
            } else {
                low = split + 1;
            }
            counts.add(context, bit);
            while (true) {
                int offset = high < 32768 ? 0 : low >= 32768 ? 32768 : low >= 16384 && high < 49152 ? 16384 : -1;
                if (offset < 0) {
                    return bit;
                }
                low = 2 * (low - offset);
                high = 2 * (high - offset) + 1;
                code = 2 * (code - offset) + bit();
            }
        }

        int level(int context) {
            if (get(context) == 0) {
                return 0;
            }
            boolean negative = get(8) == 1;
            int digits = 1;
            for (int k = 1; k <= 11; k++) {
                if (get(8 + k) == 0) {
                    break;
                }
                digits++;
            }
            int value = 1;
            for (int i = 1; i < digits; i++) {
                value = 2 * value + get(-1);
            }
            return negative ? -value : value;
        }
    }

    // ---- stream ----

    int size() {
        return stream.size();
    }

    private void needStreamByte(int index) {
        if (index < 0 || index >= stream.size()) {
            throw new IndexOutOfBoundsException();
        }
    }

    int byteAt(int index) {
        needStreamByte(index);
        return stream.get(index);
    }

    int setByte(int index, int value) {
        needStreamByte(index);
        needByte(value);
        return stream.set(index, value);
    }

    int cut(int size) {
        if (size < 0 || size > stream.size()) {
            throw new IllegalArgumentException();
        }
        int before = stream.size();
        stream = new ArrayList<>(stream.subList(0, size));
        return before - size;
    }

    // ---- decoding ----

    private boolean headerIsValid() {
        if (stream.size() < 3) {
            return false;
        }
        int width = stream.get(1);
        int height = stream.get(2);
        if (width < 1 || width > 16 || height < 1 || height > 24) {
            return false;
        }
        if (stream.get(0) == 82) {
            return true;
        }
        if (stream.get(0) != 80 || stream.size() < 4) {
            return false;
        }
        int layers = stream.get(3);
        if (layers < 1 || layers > 3 || stream.size() < 4 + layers) {
            return false;
        }
        for (int i = 0; i < layers; i++) {
            int step = stream.get(4 + i);
            if (step < 1 || step > 32 || i > 0 && step >= stream.get(3 + i)) {
                return false;
            }
        }
        return true;
    }

    int decode(int layers) {
        if (layers < 1 || layers > 3) {
            throw new IllegalArgumentException();
        }
        if (!headerIsValid()) {
            throw new IllegalStateException();
        }
        int width = stream.get(1);
        int height = stream.get(2);
        int slices = (height + 7) / 8;
        decoded = new int[height][width];
        faults = "n".repeat(slices).toCharArray();
        used = new int[slices];
        if (stream.get(0) == 82) {
            decodePlain(width, height);
        } else {
            decodeParts(width, height, slices, layers);
        }
        int count = 0;
        for (char fault : faults) {
            count += fault == 'n' ? 0 : 1;
        }
        return count;
    }

    private void decodePlain(int width, int height) {
        for (int y = 0; y < height; y++) {
            int slice = y / 8;
            int lastRow = Math.min(height, slice * 8 + 8) - 1;
            int lastPixel = 3 + lastRow * width + width - 1;
            if (lastPixel >= stream.size()) {
                faults[slice] = 'e';
                continue;
            }
            used[slice] = 1;
            for (int x = 0; x < width; x++) {
                decoded[y][x] = stream.get(3 + y * width + x);
            }
        }
    }

    private void decodeParts(int width, int height, int slices, int asked) {
        int layers = stream.get(3);
        int at = 4 + layers;
        List<List<Integer>> parts = new ArrayList<>();
        StringBuilder states = new StringBuilder();
        boolean over = false;
        for (int i = 0; i < layers * slices; i++) {
            List<Integer> bytes = List.of();
            if (!over && at + 3 <= stream.size()) {
                int size = stream.get(at) * 256 + stream.get(at + 1);
                if (at + 3 + size <= stream.size()) {
                    bytes = stream.subList(at + 3, at + 3 + size);
                    states.append(checksum(bytes) == stream.get(at + 2) ? 'n' : 's');
                    at += 3 + size;
                } else {
                    over = true;
                }
            } else {
                over = true;
            }
            if (over) {
                states.append('e');
            }
            parts.add(bytes);
        }
        for (int slice = 0; slice < slices; slice++) {
            int[][] sum = new int[8][16];
            for (int layer = 0; layer < Math.min(layers, asked); layer++) {
                char state = states.charAt(layer * slices + slice);
                if (state != 'n') {
                    faults[slice] = state;
                    break;
                }
                used[slice]++;
                int[][] results = resultsOf(parts.get(layer * slices + slice), (width + 7) / 8, stream.get(4 + layer));
                for (int y = 0; y < 8; y++) {
                    for (int x = 0; x < results[y].length; x++) {
                        sum[y][x] += results[y][x];
                    }
                }
            }
            for (int y = slice * 8; y < Math.min(height, slice * 8 + 8); y++) {
                for (int x = 0; x < width; x++) {
                    decoded[y][x] = Math.min(255, Math.max(0, sum[y - slice * 8][x]));
                }
            }
        }
    }

    private static int[][] resultsOf(List<Integer> part, int tiles, int step) {
        int[][] results = new int[8][tiles * 8];
        Decoder decoder = new Decoder(part);
        for (int tile = 0; tile < tiles; tile++) {
            boolean four = decoder.get(0) == 1;
            for (int i = 0; i < (four ? 4 : 1); i++) {
                BlockRecord b = new BlockRecord();
                b.size = four ? 4 : 8;
                b.x = tile * 8 + i % 2 * 4;
                b.y = i / 2 * 4;
                b.mode = 2 * decoder.get(1);
                b.mode += decoder.get(2 + b.mode / 2);
                b.levels = new int[b.size][b.size];
                for (int row = 0; row < b.size; row++) {
                    for (int column = 0; column < b.size; column++) {
                        b.levels[row][column] = decoder.level(nonZero(b.levels, row, column));
                    }
                }
                undo(b, results, step);
            }
        }
        return results;
    }

    private void needDecoded() {
        if (decoded == null) {
            throw new NoSuchElementException();
        }
    }

    int decodedWidth() {
        needDecoded();
        return decoded[0].length;
    }

    int decodedHeight() {
        needDecoded();
        return decoded.length;
    }

    int decodedPixel(int x, int y) {
        needDecoded();
        needPixel(decoded, x, y);
        return decoded[y][x];
    }

    char fault(int slice) {
        needDecoded();
        if (slice < 0 || slice >= faults.length) {
            throw new IndexOutOfBoundsException();
        }
        return faults[slice];
    }

    int layersUsed(int slice) {
        needDecoded();
        if (slice < 0 || slice >= used.length) {
            throw new IndexOutOfBoundsException();
        }
        return used[slice];
    }

    private boolean sizesDiffer() {
        return decoded.length != height() || decoded[0].length != width();
    }

    boolean isSame() {
        needDecoded();
        return !sizesDiffer() && greatestError() == 0;
    }

    int squaredError() {
        needDecoded();
        if (sizesDiffer()) {
            throw new IllegalStateException();
        }
        int sum = 0;
        for (int y = 0; y < height(); y++) {
            for (int x = 0; x < width(); x++) {
                sum += (picture[y][x] - decoded[y][x]) * (picture[y][x] - decoded[y][x]);
            }
        }
        return sum;
    }

    int greatestError() {
        needDecoded();
        if (sizesDiffer()) {
            throw new IllegalStateException();
        }
        int greatest = 0;
        for (int y = 0; y < height(); y++) {
            for (int x = 0; x < width(); x++) {
                greatest = Math.max(greatest, Math.abs(picture[y][x] - decoded[y][x]));
            }
        }
        return greatest;
    }

    // ---- last coding ----

    private LayerRecord layerOf(int layer) {
        if (lastCoding == null) {
            throw new NoSuchElementException();
        }
        if (layer < 0 || layer >= lastCoding.size()) {
            throw new IndexOutOfBoundsException();
        }
        return lastCoding.get(layer);
    }

    private BlockRecord blockOf(int layer, int x, int y) {
        LayerRecord record = layerOf(layer);
        if (x < 0 || x >= lastWidth || y < 0 || y >= lastHeight) {
            throw new IndexOutOfBoundsException();
        }
        return record.blockAt(x, y);
    }

    int blocks(int layer) {
        return layerOf(layer).blocks.size();
    }

    int blockSize(int layer, int x, int y) {
        return blockOf(layer, x, y).size;
    }

    char mode(int layer, int x, int y) {
        return "dhva".charAt(blockOf(layer, x, y).mode);
    }

    int level(int layer, int x, int y) {
        BlockRecord b = blockOf(layer, x, y);
        return b.levels[y - b.y][x - b.x];
    }

    int cost(int layer, int x, int y) {
        return blockOf(layer, x, y).cost;
    }

    int partSize(int layer, int slice) {
        LayerRecord record = layerOf(layer);
        if (slice < 0 || slice >= record.partSizes.size()) {
            throw new IndexOutOfBoundsException();
        }
        return record.partSizes.get(slice);
    }

    float ratio() {
        if (!replaced) {
            throw new NoSuchElementException();
        }
        return lastRatio;
    }
}
