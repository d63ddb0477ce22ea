import java.util.Arrays;
import java.util.NoSuchElementException;

/** A codec for small grey pictures. */
public final class PixelPress {
    private static final int MAX_WIDTH = 16;
    private static final int MAX_HEIGHT = 24;
    private static final int MAX_SLICES = 3;
    private static final int MAX_LAYERS = 3;
    private static final int MAX_STEP = 32;
    private static final int MAX_VALUE = 255;

    /** A plane has room for the greatest extended picture, so its rows always lie MAX_WIDTH apart. */
    private static final int PLANE = MAX_WIDTH * MAX_HEIGHT;

    /** The size of a tile, of a large block and of a slice in rows. */
    private static final int TILE = 8;
    private static final int SMALL_BLOCK = 4;
    private static final int TILES_ACROSS = MAX_WIDTH / TILE;
    private static final int CELLS_ACROSS = MAX_WIDTH / SMALL_BLOCK;
    private static final int TILES = PLANE / (TILE * TILE);
    private static final int CELLS = PLANE / (SMALL_BLOCK * SMALL_BLOCK);

    private static final int MODE_AVERAGE = 0;
    private static final int MODE_LEFT = 1;
    private static final int MODE_ABOVE = 2;
    private static final int MODES = 4;
    private static final char[] MODE_LETTERS = {'d', 'h', 'v', 'a'};

    private static final int SPLIT_CONTEXT = 0;
    private static final int MODE_HIGH_CONTEXT = 1;
    private static final int MODE_LOW_CONTEXT = 2;
    private static final int FIRST_LEVEL_CONTEXT = 4;
    private static final int LEVEL_CONTEXT = 5;
    private static final int SIGN_CONTEXT = 8;
    private static final int DIGITS_CONTEXT = 8;
    private static final int CONTEXTS = 20;
    private static final int NO_CONTEXT = -1;

    private static final int MAX_DIGITS = 12;
    private static final int BASE_COST = 4;
    private static final int DIGIT_COST = 2;

    private static final int CODED_STREAM = 80;
    private static final int PLAIN_STREAM = 82;
    private static final int PLAIN_HEADER = 3;
    private static final int FIRST_STEP = 4;
    private static final int PART_HEADER = 3;
    private static final int CHECKSUM_DIVISOR = 251;

    private static final char FINE = 'n';
    private static final char CUT = 'e';
    private static final char WRONG = 's';

    private final Picture picture = new Picture();
    private final int[] steps = {1, 0, 0};
    private int layerCount = 1;

    private final ByteRow stream = new ByteRow();

    private final Picture decoded = new Picture();
    private boolean hasDecoded = false;
    private final char[] faults = new char[MAX_SLICES];
    private final int[] usedLayers = new int[MAX_SLICES];

    private final Layer[] codedLayers = {new Layer(), new Layer(), new Layer()};
    /** How many layers the last coding had; 0 if there was none or a plain stream came last. */
    private int codedCount = 0;
    private int codedWidth = 0;
    private int codedHeight = 0;
    private int replacedSize = 0;
    /** The size of a plain stream of the picture at that time; 0 as long as the stream was never replaced. */
    private int replacedPlainSize = 0;

    private final int[] target = new int[PLANE];
    private final Layer decodedLayer = new Layer();
    private final BitWriter writer = new BitWriter();
    private final BitReader reader = new BitReader();

    public PixelPress() {
    }

    // ---- picture ----

    public int resize(int width, int height) throws IllegalArgumentException {
        if (!isPictureSize(width, height)) {
            throw new IllegalArgumentException("the width must be 1 to 16 and the height 1 to 24");
        }
        picture.clear(width, height);
        return width * height;
    }

    public int set(int x, int y, int value) throws IndexOutOfBoundsException, IllegalArgumentException {
        requirePixel(picture, x, y);
        requireByte(value);
        int before = picture.at(x, y);
        picture.put(x, y, value);
        return before;
    }

    public int fill(int x, int y, int width, int height, int value)
            throws IndexOutOfBoundsException, IllegalArgumentException {
        requirePixel(picture, x, y);
        requireByte(value);
        if (width < 1 || height < 1 || width > picture.columns - x || height > picture.rows - y) {
            throw new IllegalArgumentException("the area must not be empty and must lie within the picture");
        }
        for (int row = y; row < y + height; row++) {
            for (int column = x; column < x + width; column++) {
                picture.put(column, row, value);
            }
        }
        return width * height;
    }

    public int ramp(int start, int right, int down) throws IllegalArgumentException {
        requireByte(start);
        requireByte(right);
        requireByte(down);
        for (int y = 0; y < picture.rows; y++) {
            for (int x = 0; x < picture.columns; x++) {
                picture.put(x, y, (start + right * x + down * y) % (MAX_VALUE + 1));
            }
        }
        return picture.at(picture.columns - 1, picture.rows - 1);
    }

    public int pixel(int x, int y) throws IndexOutOfBoundsException {
        requirePixel(picture, x, y);
        return picture.at(x, y);
    }

    public int width() {
        return picture.columns;
    }

    public int height() {
        return picture.rows;
    }

    // ---- settings ----

    public int setSteps(int first, int second, int third) throws IllegalArgumentException {
        if (!isStepAfter(MAX_STEP + 1, first)) {
            throw new IllegalArgumentException("the first step must be 1 to 32");
        }
        if (second != 0 && !isStepAfter(first, second)) {
            throw new IllegalArgumentException("the second step must be 0, or 1 to 32 and less than the first");
        }
        // Without a second step, 0 as the step before lets no third one pass.
        if (third != 0 && !isStepAfter(second, third)) {
            throw new IllegalArgumentException("the third step must be 0, or 1 to 32 and less than the second");
        }
        steps[0] = first;
        steps[1] = second;
        steps[2] = third;
        layerCount = second == 0 ? 1 : third == 0 ? 2 : MAX_LAYERS;
        return layerCount;
    }

    public boolean isLossless() {
        return steps[layerCount - 1] == 1;
    }

    // ---- stream ----

    public int encode() {
        writeCodedHeader();
        extendPicture();
        for (int index = 0; index < layerCount; index++) {
            Layer layer = codedLayers[index];
            layer.step = steps[index];
            encodeLayer(layer);
            subtractFromTarget(layer);
        }
        rememberReplacement(layerCount);
        return stream.count;
    }

    public int encodePlain() {
        stream.clear();
        stream.append(PLAIN_STREAM);
        stream.append(picture.columns);
        stream.append(picture.rows);
        for (int y = 0; y < picture.rows; y++) {
            for (int x = 0; x < picture.columns; x++) {
                stream.append(picture.at(x, y));
            }
        }
        rememberReplacement(0);
        return stream.count;
    }

    public int size() {
        return stream.count;
    }

    public int byteAt(int index) throws IndexOutOfBoundsException {
        requireStreamByte(index);
        return stream.at(index);
    }

    public int setByte(int index, int value) throws IndexOutOfBoundsException, IllegalArgumentException {
        requireStreamByte(index);
        requireByte(value);
        int before = stream.at(index);
        stream.put(index, value);
        return before;
    }

    public int cut(int size) throws IllegalArgumentException {
        if (size < 0 || size > stream.count) {
            throw new IllegalArgumentException("the size must be between 0 and that of the stream");
        }
        int removed = stream.count - size;
        stream.count = size;
        return removed;
    }

    // ---- decoding ----

    public int decode(int layers) throws IllegalArgumentException, IllegalStateException {
        if (layers < 1 || layers > MAX_LAYERS) {
            throw new IllegalArgumentException("the number of layers must be 1 to 3");
        }
        if (!hasValidHeader()) {
            throw new IllegalStateException("the header of the stream is not valid");
        }
        decoded.clear(stream.at(1), stream.at(2));
        hasDecoded = true;
        forgetSlices();
        if (stream.at(0) == PLAIN_STREAM) {
            readPlainPixels();
        } else {
            readParts(Math.min(layers, stream.at(FIRST_STEP - 1)));
            decoded.clamp();
        }
        return countFaultySlices();
    }

    public int decodedWidth() throws NoSuchElementException {
        requireDecoded();
        return decoded.columns;
    }

    public int decodedHeight() throws NoSuchElementException {
        requireDecoded();
        return decoded.rows;
    }

    public int decodedPixel(int x, int y) throws NoSuchElementException, IndexOutOfBoundsException {
        requireDecoded();
        requirePixel(decoded, x, y);
        return decoded.at(x, y);
    }

    public char fault(int slice) throws NoSuchElementException, IndexOutOfBoundsException {
        requireDecoded();
        requireSlice(slice, decoded.rows);
        return faults[slice];
    }

    public int layersUsed(int slice) throws NoSuchElementException, IndexOutOfBoundsException {
        requireDecoded();
        requireSlice(slice, decoded.rows);
        return usedLayers[slice];
    }

    public boolean isSame() throws NoSuchElementException {
        requireDecoded();
        return picture.isAsLargeAs(decoded) && largestDifference() == 0;
    }

    public int squaredError() throws NoSuchElementException, IllegalStateException {
        requireDecoded();
        requireSameSize();
        int sum = 0;
        for (int y = 0; y < picture.rows; y++) {
            for (int x = 0; x < picture.columns; x++) {
                int difference = picture.at(x, y) - decoded.at(x, y);
                sum += difference * difference;
            }
        }
        return sum;
    }

    public int greatestError() throws NoSuchElementException, IllegalStateException {
        requireDecoded();
        requireSameSize();
        return largestDifference();
    }

    // ---- last coding ----

    public int blocks(int layer) throws NoSuchElementException, IndexOutOfBoundsException {
        requireCodedLayer(layer);
        return codedLayers[layer].blockCount;
    }

    public int blockSize(int layer, int x, int y) throws NoSuchElementException, IndexOutOfBoundsException {
        requireCodedPixel(layer, x, y);
        return codedLayers[layer].sizeAt(x, y);
    }

    public char mode(int layer, int x, int y) throws NoSuchElementException, IndexOutOfBoundsException {
        requireCodedPixel(layer, x, y);
        return MODE_LETTERS[codedLayers[layer].modes[codedLayers[layer].firstCell(x, y)]];
    }

    public int level(int layer, int x, int y) throws NoSuchElementException, IndexOutOfBoundsException {
        requireCodedPixel(layer, x, y);
        return codedLayers[layer].levels[y * MAX_WIDTH + x];
    }

    public int cost(int layer, int x, int y) throws NoSuchElementException, IndexOutOfBoundsException {
        requireCodedPixel(layer, x, y);
        return codedLayers[layer].costs[codedLayers[layer].firstCell(x, y)];
    }

    public int partSize(int layer, int slice) throws NoSuchElementException, IndexOutOfBoundsException {
        requireCodedLayer(layer);
        requireSlice(slice, codedHeight);
        return codedLayers[layer].partSizes[slice];
    }

    public float ratio() throws NoSuchElementException {
        if (replacedPlainSize == 0) {
            throw new NoSuchElementException("the stream was never replaced");
        }
        return (float) replacedSize / (float) replacedPlainSize;
    }

    // ---- what the arguments and the state must be ----

    private static boolean isPictureSize(int width, int height) {
        return width >= 1 && width <= MAX_WIDTH && height >= 1 && height <= MAX_HEIGHT;
    }

    private static boolean isStepAfter(int before, int step) {
        return step >= 1 && step <= MAX_STEP && step < before;
    }

    private static void requireByte(int value) {
        if (value < 0 || value > MAX_VALUE) {
            throw new IllegalArgumentException("the value must be 0 to 255");
        }
    }

    private static void requirePixel(Picture of, int x, int y) {
        if (!of.has(x, y)) {
            throw new IndexOutOfBoundsException("there is no such pixel");
        }
    }

    private static void requireSlice(int slice, int rows) {
        if (slice < 0 || slice >= slicesOf(rows)) {
            throw new IndexOutOfBoundsException("there is no such slice");
        }
    }

    private void requireStreamByte(int index) {
        if (index < 0 || index >= stream.count) {
            throw new IndexOutOfBoundsException("the stream has no such byte");
        }
    }

    private void requireDecoded() {
        if (!hasDecoded) {
            throw new NoSuchElementException("nothing has been decoded");
        }
    }

    private void requireSameSize() {
        if (!picture.isAsLargeAs(decoded)) {
            throw new IllegalStateException("the decoded picture has another size");
        }
    }

    private void requireCodedLayer(int layer) {
        if (codedCount == 0) {
            throw new NoSuchElementException("the stream was not coded last");
        }
        if (layer < 0 || layer >= codedCount) {
            throw new IndexOutOfBoundsException("there was no such layer");
        }
    }

    private void requireCodedPixel(int layer, int x, int y) {
        requireCodedLayer(layer);
        if (x < 0 || x >= codedWidth || y < 0 || y >= codedHeight) {
            throw new IndexOutOfBoundsException("the coded picture had no such pixel");
        }
    }

    // ---- encoding ----

    private static int slicesOf(int rows) {
        return (rows + TILE - 1) / TILE;
    }

    private static int tilesOf(int columns) {
        return (columns + TILE - 1) / TILE;
    }

    private void rememberReplacement(int layers) {
        codedCount = layers;
        codedWidth = picture.columns;
        codedHeight = picture.rows;
        replacedSize = stream.count;
        replacedPlainSize = PLAIN_HEADER + picture.columns * picture.rows;
    }

    private void writeCodedHeader() {
        stream.clear();
        stream.append(CODED_STREAM);
        stream.append(picture.columns);
        stream.append(picture.rows);
        stream.append(layerCount);
        for (int index = 0; index < layerCount; index++) {
            stream.append(steps[index]);
        }
    }

    private void extendPicture() {
        int columns = tilesOf(picture.columns) * TILE;
        int rows = slicesOf(picture.rows) * TILE;
        for (int y = 0; y < rows; y++) {
            for (int x = 0; x < columns; x++) {
                target[y * MAX_WIDTH + x] =
                        picture.at(Math.min(x, picture.columns - 1), Math.min(y, picture.rows - 1));
            }
        }
    }

    private void subtractFromTarget(Layer layer) {
        for (int place = 0; place < PLANE; place++) {
            target[place] -= layer.result[place];
        }
    }

    private void encodeLayer(Layer layer) {
        int tiles = tilesOf(picture.columns);
        int slices = slicesOf(picture.rows);
        layer.blockCount = 0;
        for (int slice = 0; slice < slices; slice++) {
            for (int tile = 0; tile < tiles; tile++) {
                layer.makeTile(target, tile * TILE, slice * TILE);
            }
            writer.start();
            codePart(writer, layer, slice, tiles);
            writer.finish();
            layer.partSizes[slice] = writer.byteCount();
            appendPart();
        }
    }

    private void appendPart() {
        int count = writer.byteCount();
        stream.append(count / (MAX_VALUE + 1));
        stream.append(count % (MAX_VALUE + 1));
        stream.append(checksum(writer.bytes, 0, count));
        for (int index = 0; index < count; index++) {
            stream.append(writer.bytes[index]);
        }
    }

    private static int checksum(int[] bytes, int from, int count) {
        int sum = 0;
        for (int index = 0; index < count; index++) {
            // The remainder is taken at each step because the whole sum could pass the range of int.
            sum = (sum + (index + 1) * bytes[from + index]) % CHECKSUM_DIVISOR;
        }
        return sum;
    }

    // ---- the bits of a part, for writing and for reading: the coder answers the bit that counts ----

    private static void codePart(BitCoder coder, Layer layer, int slice, int tiles) {
        int y = slice * TILE;
        for (int tile = 0; tile < tiles; tile++) {
            int x = tile * TILE;
            int split = coder.code(layer.sizeAt(x, y) == SMALL_BLOCK ? 1 : 0, SPLIT_CONTEXT);
            int size = split == 1 ? SMALL_BLOCK : TILE;
            layer.setSizeAt(x, y, size);
            for (int down = 0; down < TILE; down += size) {
                for (int right = 0; right < TILE; right += size) {
                    codeBlock(coder, layer, x + right, y + down, size);
                }
            }
        }
    }

    private static void codeBlock(BitCoder coder, Layer layer, int x, int y, int size) {
        int cell = layer.firstCell(x, y);
        int high = coder.code(layer.modes[cell] / 2, MODE_HIGH_CONTEXT);
        int low = coder.code(layer.modes[cell] % 2, MODE_LOW_CONTEXT + high);
        layer.modes[cell] = high * 2 + low;
        for (int row = 0; row < size; row++) {
            for (int column = 0; column < size; column++) {
                int place = (y + row) * MAX_WIDTH + x + column;
                int context = levelContext(layer.levels, place, row, column);
                layer.levels[place] = codeLevel(coder, layer.levels[place], context);
            }
        }
    }

    private static int levelContext(int[] levels, int place, int row, int column) {
        if (row == 0 && column == 0) {
            return FIRST_LEVEL_CONTEXT;
        }
        int left = column > 0 && levels[place - 1] != 0 ? 1 : 0;
        int above = row > 0 && levels[place - MAX_WIDTH] != 0 ? 1 : 0;
        return LEVEL_CONTEXT + left + above;
    }

    private static int codeLevel(BitCoder coder, int level, int context) {
        if (coder.code(level != 0 ? 1 : 0, context) == 0) {
            return 0;
        }
        int negative = coder.code(level < 0 ? 1 : 0, SIGN_CONTEXT);
        int magnitude = level < 0 ? -level : level;
        int wanted = digitsOf(magnitude);
        int digits = 1;
        while (digits < MAX_DIGITS && coder.code(wanted > digits ? 1 : 0, DIGITS_CONTEXT + digits) == 1) {
            digits++;
        }
        int value = 1;
        for (int digit = digits - 2; digit >= 0; digit--) {
            value = value * 2 + coder.code((magnitude >> digit) & 1, NO_CONTEXT);
        }
        return negative == 1 ? -value : value;
    }

    private static int digitsOf(int magnitude) {
        int digits = 0;
        for (int rest = magnitude; rest > 0; rest /= 2) {
            digits++;
        }
        return digits;
    }

    // ---- decoding ----

    private boolean hasValidHeader() {
        // A byte behind the end reads as -1, which no number of a valid header is.
        if (!isPictureSize(stream.at(1), stream.at(2))) {
            return false;
        }
        if (stream.at(0) == PLAIN_STREAM) {
            return true;
        }
        return stream.at(0) == CODED_STREAM && hasValidSteps();
    }

    private boolean hasValidSteps() {
        int count = stream.at(FIRST_STEP - 1);
        if (count < 1 || count > MAX_LAYERS) {
            return false;
        }
        int before = MAX_STEP + 1;
        for (int index = 0; index < count; index++) {
            int step = stream.at(FIRST_STEP + index);
            if (!isStepAfter(before, step)) {
                return false;
            }
            before = step;
        }
        return true;
    }

    private void forgetSlices() {
        for (int slice = 0; slice < MAX_SLICES; slice++) {
            faults[slice] = FINE;
            usedLayers[slice] = 0;
        }
    }

    private void readPlainPixels() {
        for (int slice = 0; slice < slicesOf(decoded.rows); slice++) {
            int endRow = Math.min((slice + 1) * TILE, decoded.rows);
            if (PLAIN_HEADER + endRow * decoded.columns > stream.count) {
                faults[slice] = CUT;
            } else {
                readPlainRows(slice * TILE, endRow);
                usedLayers[slice] = 1;
            }
        }
    }

    private void readPlainRows(int firstRow, int endRow) {
        for (int y = firstRow; y < endRow; y++) {
            for (int x = 0; x < decoded.columns; x++) {
                decoded.put(x, y, stream.at(PLAIN_HEADER + y * decoded.columns + x));
            }
        }
    }

    private void readParts(int layers) {
        int tiles = tilesOf(decoded.columns);
        int slices = slicesOf(decoded.rows);
        int at = FIRST_STEP + stream.at(FIRST_STEP - 1);
        for (int layer = 0; layer < layers; layer++) {
            decodedLayer.step = stream.at(FIRST_STEP + layer);
            for (int slice = 0; slice < slices; slice++) {
                int count = partCount(at);
                char found = partFault(at, count);
                if (faults[slice] == FINE && found == FINE) {
                    reader.start(stream.bytes, at + PART_HEADER, count);
                    codePart(reader, decodedLayer, slice, tiles);
                    decodedLayer.restoreSlice(slice, tiles);
                    decoded.addRows(decodedLayer.result, slice * TILE);
                    usedLayers[slice]++;
                } else if (faults[slice] == FINE) {
                    faults[slice] = found;
                }
                // Behind a cut part, no part begins before the end of the stream.
                at = found == CUT ? stream.count : at + PART_HEADER + count;
            }
        }
    }

    /** The size that the part at this index tells, or -1 if the stream ends before it is told. */
    private int partCount(int at) {
        if (at + PART_HEADER > stream.count) {
            return -1;
        }
        return stream.at(at) * (MAX_VALUE + 1) + stream.at(at + 1);
    }

    private char partFault(int at, int count) {
        if (count < 0 || at + PART_HEADER + count > stream.count) {
            return CUT;
        }
        return checksum(stream.bytes, at + PART_HEADER, count) == stream.at(at + 2) ? FINE : WRONG;
    }

    private int countFaultySlices() {
        int faulty = 0;
        for (int slice = 0; slice < slicesOf(decoded.rows); slice++) {
            if (faults[slice] != FINE) {
                faulty++;
            }
        }
        return faulty;
    }

    private int largestDifference() {
        int largest = 0;
        for (int y = 0; y < picture.rows; y++) {
            for (int x = 0; x < picture.columns; x++) {
                largest = Math.max(largest, Math.abs(picture.at(x, y) - decoded.at(x, y)));
            }
        }
        return largest;
    }

    /** A picture of at most 16 by 24 pixels. */
    private static final class Picture {
        private int columns = TILE;
        private int rows = TILE;
        private final int[] pixels = new int[PLANE];

        void clear(int newColumns, int newRows) {
            columns = newColumns;
            rows = newRows;
            Arrays.fill(pixels, 0);
        }

        boolean has(int x, int y) {
            return x >= 0 && x < columns && y >= 0 && y < rows;
        }

        int at(int x, int y) {
            return has(x, y) ? pixels[y * MAX_WIDTH + x] : 0;
        }

        void put(int x, int y, int value) {
            if (has(x, y)) {
                pixels[y * MAX_WIDTH + x] = value;
            }
        }

        boolean isAsLargeAs(Picture other) {
            return columns == other.columns && rows == other.rows;
        }

        /** Adds the values of a plane to those of the slice that begins with this row. */
        void addRows(int[] plane, int firstRow) {
            int endRow = Math.min(firstRow + TILE, rows);
            for (int y = firstRow; y < endRow; y++) {
                for (int x = 0; x < columns; x++) {
                    pixels[y * MAX_WIDTH + x] += plane[y * MAX_WIDTH + x];
                }
            }
        }

        void clamp() {
            for (int place = 0; place < PLANE; place++) {
                pixels[place] = Math.max(0, Math.min(MAX_VALUE, pixels[place]));
            }
        }
    }

    /** A row of bytes that grows at its end. */
    private static final class ByteRow {
        private int[] bytes = new int[512];
        private int count = 0;

        void clear() {
            count = 0;
        }

        void append(int value) {
            if (count >= bytes.length) {
                bytes = Arrays.copyOf(bytes, bytes.length * 2);
            }
            bytes[count] = value;
            count++;
        }

        /** The byte, or -1 if there is none. */
        int at(int index) {
            return index >= 0 && index < count ? bytes[index] : -1;
        }

        void put(int index, int value) {
            if (index >= 0 && index < count) {
                bytes[index] = value;
            }
        }
    }

    /** One layer: how its tiles are divided, its blocks and their results. */
    private static final class Layer {
        private int step = 1;
        private int blockCount = 0;
        private final int[] partSizes = new int[MAX_SLICES];
        private final int[] sizes = new int[TILES];
        /** Modes and costs stand at the upper left cell, of 4 by 4 pixels, of each block. */
        private final int[] modes = new int[CELLS];
        private final int[] costs = new int[CELLS];
        private final int[] levels = new int[PLANE];
        private final int[] result = new int[PLANE];
        private final Prediction prediction = new Prediction();
        private final Transform transform = new Transform();

        int sizeAt(int x, int y) {
            return sizes[y / TILE * TILES_ACROSS + x / TILE] == SMALL_BLOCK ? SMALL_BLOCK : TILE;
        }

        void setSizeAt(int x, int y, int size) {
            sizes[y / TILE * TILES_ACROSS + x / TILE] = size;
        }

        int firstCell(int x, int y) {
            int blockCells = sizeAt(x, y) / SMALL_BLOCK;
            int row = y / SMALL_BLOCK;
            int column = x / SMALL_BLOCK;
            return (row - row % blockCells) * CELLS_ACROSS + column - column % blockCells;
        }

        void makeTile(int[] target, int x, int y) {
            int costOfFour = makeBlocks(target, x, y, true);
            int costOfOne = makeBlocks(target, x, y, false);
            if (costOfFour < costOfOne) {
                // The one block has replaced the four in this layer, so they are made again.
                makeBlocks(target, x, y, true);
                blockCount += 4;
            } else {
                blockCount++;
            }
        }

        /** Makes the four small blocks of a tile, or its one large block, and answers the sum of the costs. */
        private int makeBlocks(int[] target, int x, int y, boolean areSmall) {
            int size = areSmall ? SMALL_BLOCK : TILE;
            int sum = 0;
            setSizeAt(x, y, size);
            for (int down = 0; down < TILE; down += size) {
                for (int right = 0; right < TILE; right += size) {
                    sum += fitBlock(target, x + right, y + down, size);
                    restoreBlock(x + right, y + down, size);
                }
            }
            return sum;
        }

        /** Finds the mode, the levels and the cost of a block. */
        private int fitBlock(int[] target, int x, int y, int size) {
            prediction.look(result, x, y, size);
            int best = prediction.bestMode(target, x, y);
            for (int row = 0; row < size; row++) {
                for (int column = 0; column < size; column++) {
                    int wanted = target[(y + row) * MAX_WIDTH + x + column];
                    transform.places[row * TILE + column] = wanted - prediction.of(best, row, column);
                }
            }
            transform.split(size);
            int divisor = Math.max(1, step);
            int sum = BASE_COST;
            for (int row = 0; row < size; row++) {
                for (int column = 0; column < size; column++) {
                    int value = transform.places[row * TILE + column] / divisor;
                    levels[(y + row) * MAX_WIDTH + x + column] = value;
                    sum += DIGIT_COST * digitsOf(value < 0 ? -value : value);
                }
            }
            modes[firstCell(x, y)] = best;
            costs[firstCell(x, y)] = sum;
            return sum;
        }

        /** Finds the result of a block from its mode and its levels. */
        private void restoreBlock(int x, int y, int size) {
            int chosen = modes[firstCell(x, y)];
            prediction.look(result, x, y, size);
            for (int row = 0; row < size; row++) {
                for (int column = 0; column < size; column++) {
                    transform.places[row * TILE + column] = levels[(y + row) * MAX_WIDTH + x + column] * step;
                }
            }
            transform.join(size);
            for (int row = 0; row < size; row++) {
                for (int column = 0; column < size; column++) {
                    result[(y + row) * MAX_WIDTH + x + column] =
                            transform.places[row * TILE + column] + prediction.of(chosen, row, column);
                }
            }
        }

        void restoreSlice(int slice, int tiles) {
            int y = slice * TILE;
            for (int tile = 0; tile < tiles; tile++) {
                int x = tile * TILE;
                int size = sizeAt(x, y);
                for (int down = 0; down < TILE; down += size) {
                    for (int right = 0; right < TILE; right += size) {
                        restoreBlock(x + right, y + down, size);
                    }
                }
            }
        }
    }

    /** What the neighbours of a block let expect of it. */
    private static final class Prediction {
        private int size = TILE;
        private int average = 0;
        private final int[] left = new int[TILE];
        private final int[] above = new int[TILE];

        /** Takes the neighbours of a block from the results of its layer. */
        void look(int[] result, int x, int y, int newSize) {
            size = newSize;
            int sum = 0;
            for (int i = 0; i < size; i++) {
                left[i] = x > 0 ? result[(y + i) * MAX_WIDTH + x - 1] : 0;
                // The row above the first one of a slice belongs to another slice.
                above[i] = y % TILE > 0 ? result[(y - 1) * MAX_WIDTH + x + i] : 0;
                sum += left[i] + above[i];
            }
            average = Math.floorDiv(sum, size == SMALL_BLOCK ? 2 * SMALL_BLOCK : 2 * TILE);
        }

        int of(int mode, int row, int column) {
            if (mode == MODE_AVERAGE) {
                return average;
            }
            if (mode == MODE_LEFT) {
                return left[row];
            }
            if (mode == MODE_ABOVE) {
                return above[column];
            }
            return Math.floorDiv(left[row] + above[column], 2);
        }

        int bestMode(int[] target, int x, int y) {
            int best = 0;
            int least = 0;
            for (int mode = 0; mode < MODES; mode++) {
                int sum = 0;
                for (int row = 0; row < size; row++) {
                    for (int column = 0; column < size; column++) {
                        sum += Math.abs(target[(y + row) * MAX_WIDTH + x + column] - of(mode, row, column));
                    }
                }
                if (mode == 0 || sum < least) {
                    best = mode;
                    least = sum;
                }
            }
            return best;
        }
    }

    /** The places of one block, whose rows lie TILE apart, and their transform by whole numbers. */
    private static final class Transform {
        private final int[] places = new int[TILE * TILE];
        private final int[] line = new int[TILE];

        void split(int size) {
            for (int length = size; length >= 2; length /= 2) {
                for (int row = 0; row < length; row++) {
                    splitLine(row * TILE, 1, length);
                }
                for (int column = 0; column < length; column++) {
                    splitLine(column, TILE, length);
                }
            }
        }

        void join(int size) {
            for (int length = 2; length <= size; length *= 2) {
                for (int column = 0; column < length; column++) {
                    joinLine(column, TILE, length);
                }
                for (int row = 0; row < length; row++) {
                    joinLine(row * TILE, 1, length);
                }
            }
        }

        private void splitLine(int start, int distance, int length) {
            int half = length / 2;
            for (int k = 0; k < half; k++) {
                int a = places[start + 2 * k * distance];
                int b = places[start + (2 * k + 1) * distance];
                // The shift rounds down, for negative numbers, too.
                line[k] = (a + b) >> 1;
                line[half + k] = a - b;
            }
            for (int k = 0; k < length; k++) {
                places[start + k * distance] = line[k];
            }
        }

        private void joinLine(int start, int distance, int length) {
            int half = length / 2;
            for (int k = 0; k < half; k++) {
                int mean = places[start + k * distance];
                int difference = places[start + (half + k) * distance];
                int a = mean + ((difference + 1) >> 1);
                line[2 * k] = a;
                line[2 * k + 1] = a - difference;
            }
            for (int k = 0; k < length; k++) {
                places[start + k * distance] = line[k];
            }
        }
    }

    /** What writer and reader have in common: the interval and the counts of the contexts. */
    private abstract static class BitCoder {
        static final int NO_OFFSET = -1;
        static final int LOW_OFFSET = 0;
        static final int MIDDLE_OFFSET = 16384;
        static final int HIGH_OFFSET = 32768;
        private static final int THREE_QUARTERS = 49152;
        private static final int TOP = 65535;
        private static final int MAX_COUNT = 64;
        /** Each shift doubles the interval, which has at most this many binary digits. */
        private static final int MAX_SHIFTS = 17;

        int low = 0;
        int high = TOP;
        private final int[] zeros = new int[CONTEXTS];
        private final int[] ones = new int[CONTEXTS];

        /** Which bit is coded: the given one when writing, the one found when reading. */
        abstract int choose(int bit, int split);

        /** Takes notice of an offset before the interval is shifted by it. */
        abstract void take(int offset);

        final void reset() {
            low = 0;
            high = TOP;
            Arrays.fill(zeros, 1);
            Arrays.fill(ones, 1);
        }

        final int code(int bit, int context) {
            int split = splitFor(context);
            int chosen = choose(bit, split);
            if (chosen == 0) {
                high = split;
            } else {
                low = split + 1;
            }
            count(chosen, context);
            int offset = nextOffset();
            for (int shift = 0; shift < MAX_SHIFTS && offset != NO_OFFSET; shift++) {
                take(offset);
                low = (low - offset) * 2;
                high = (high - offset) * 2 + 1;
                offset = nextOffset();
            }
            return chosen;
        }

        private int splitFor(int context) {
            int range = high - low + 1;
            int zero = 1;
            int one = 1;
            if (context >= 0 && context < CONTEXTS) {
                zero = zeros[context];
                one = ones[context];
            }
            return zero + one > 0 ? low - 1 + range * zero / (zero + one) : low;
        }

        private void count(int bit, int context) {
            if (context < 0 || context >= CONTEXTS) {
                return;
            }
            if (bit == 0) {
                zeros[context]++;
            } else {
                ones[context]++;
            }
            if (zeros[context] + ones[context] > MAX_COUNT) {
                zeros[context] = (zeros[context] + 1) / 2;
                ones[context] = (ones[context] + 1) / 2;
            }
        }

        private int nextOffset() {
            if (high < HIGH_OFFSET) {
                return LOW_OFFSET;
            }
            if (low >= HIGH_OFFSET) {
                return HIGH_OFFSET;
            }
            return low >= MIDDLE_OFFSET && high < THREE_QUARTERS ? MIDDLE_OFFSET : NO_OFFSET;
        }
    }

    /** Writes the bits of a part. */
    private static final class BitWriter extends BitCoder {
        /**
         * A part has at most 128 levels of 13 bits with a context, of at most 6.1 binary digits each, and 10 bits
         * without; 18 bits more with a context tell sizes and modes. That is less than 1500 bytes.
         */
        private final int[] bytes = new int[2048];
        private int bitCount = 0;
        private int pending = 0;

        void start() {
            reset();
            bitCount = 0;
            pending = 0;
        }

        void finish() {
            pending++;
            take(low < MIDDLE_OFFSET ? LOW_OFFSET : HIGH_OFFSET);
        }

        int byteCount() {
            return (bitCount + 7) / 8;
        }

        int choose(int bit, int split) {
            return bit;
        }

        void take(int offset) {
            if (offset == MIDDLE_OFFSET) {
                pending++;
                return;
            }
            int first = offset == HIGH_OFFSET ? 1 : 0;
            int total = 1 + pending;
            pending = 0;
            for (int i = 0; i < total && bitCount / 8 < bytes.length; i++) {
                int bit = i == 0 ? first : 1 - first;
                int index = bitCount / 8;
                int before = bitCount % 8 == 0 ? 0 : bytes[index];
                bytes[index] = before | bit << (7 - bitCount % 8);
                bitCount++;
            }
        }
    }

    /** Reads the bits of a part. */
    private static final class BitReader extends BitCoder {
        private static final int CODE_BITS = 16;

        private int[] bytes = new int[0];
        private int position = 0;
        private int end = 0;
        private int code = 0;

        void start(int[] source, int from, int count) {
            reset();
            bytes = source;
            position = from * 8;
            end = Math.min(from + count, source.length) * 8;
            code = 0;
            for (int i = 0; i < CODE_BITS; i++) {
                take(LOW_OFFSET);
            }
        }

        int choose(int bit, int split) {
            return code <= split ? 0 : 1;
        }

        void take(int offset) {
            int next = 0;
            if (position < end) {
                next = (bytes[position / 8] >> (7 - position % 8)) & 1;
                position++;
            }
            code = (code - offset) * 2 + next;
        }
    }
}
