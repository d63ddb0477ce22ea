import java.util.NoSuchElementException;

/** Promises 1 and 11 to 16: the stream. */
public final class StreamTest {
    private static final String BAD_INDEX = Check.thrown(IndexOutOfBoundsException.class);
    private static final String BAD_ARGUMENT = Check.thrown(IllegalArgumentException.class);
    private static final String NOTHING = Check.thrown(NoSuchElementException.class);

    private final Check check = new Check();

    private void dueStream(String what, PixelPress press, int... bytes) {
        check.due("size of " + what, bytes.length, press::size);
        for (int i = 0; i < bytes.length; i++) {
            int index = i;
            check.due("byte " + i + " of " + what, bytes[i], () -> press.byteAt(index));
        }
        check.due("the byte behind " + what, BAD_INDEX, () -> press.byteAt(bytes.length));
    }

    private void aNewObjectIsEmpty() {
        PixelPress press = new PixelPress();
        check.due("size", 0, press::size);
        check.due("byteAt", BAD_INDEX, () -> press.byteAt(0));
        check.due("setByte", BAD_INDEX, () -> press.setByte(0, 0));
        check.due("cut", 0, () -> press.cut(0));
        check.due("ratio", NOTHING, press::ratio);
        check.due("blocks", NOTHING, () -> press.blocks(0));
        check.due("decodedWidth", NOTHING, press::decodedWidth);
        check.due("decode", Check.thrown(IllegalStateException.class), () -> press.decode(1));
    }

    private void encodeOfAnEmptyPicture() {
        PixelPress press = new PixelPress();
        check.due("encode", 10, press::encode);
        // Its part is the bytes 0 and 16, and 1 * 0 + 2 * 16 is their checksum.
        dueStream("an empty picture", press, 80, 8, 8, 1, 1, 0, 2, 32, 0, 16);
    }

    private void encodeReplacesTheStream() {
        PixelPress press = new PixelPress();
        press.encodePlain();
        check.due("encode", 10, press::encode);
        check.due("the first byte", 80, () -> press.byteAt(0));
        press.resize(10, 9);
        press.ramp(3, 5, 7);
        press.set(9, 8, 255);
        press.fill(2, 2, 4, 4, 0);
        press.setSteps(8, 3, 1);
        check.due("encode of three layers", 136, press::encode);
        check.due("size", 136, press::size);
        check.due("a byte of the first part", 58, () -> press.byteAt(12));
        check.due("encode again", 136, press::encode);
    }

    private void partsFollowTheirHeaders() {
        PixelPress press = new PixelPress();
        press.resize(13, 20);
        press.ramp(200, 19, 77);
        press.setSteps(30, 7, 1);
        int size = press.encode();
        int at = 7;
        for (int layer = 0; layer < 3; layer++) {
            for (int slice = 0; slice < 3; slice++) {
                int from = at;
                int count = press.partSize(layer, slice);
                check.due("the size of a part", count, () -> press.byteAt(from) * 256 + press.byteAt(from + 1));
                long sum = 0;
                for (int i = 0; i < count; i++) {
                    sum += (i + 1L) * press.byteAt(from + 3 + i);
                }
                check.due("the checksum of a part", sum % 251, () -> press.byteAt(from + 2));
                at += 3 + count;
            }
        }
        check.due("the end of the parts", size, press::size);
        int end = at;
        check.due("the end of the last part", size, () -> end);
    }

    private void encodePlainWritesThePixels() {
        PixelPress press = new PixelPress();
        press.encode();
        press.resize(2, 3);
        press.ramp(250, 2, 3);
        check.due("encodePlain", 9, press::encodePlain);
        dueStream("a plain stream", press, 82, 2, 3, 250, 252, 253, 255, 0, 2);
        press.resize(16, 24);
        check.due("the largest plain stream", 387, press::encodePlain);
        press.resize(1, 1);
        check.due("the smallest plain stream", 4, press::encodePlain);
        check.due("size", 4, press::size);
    }

    private void bytesAreReadAndChanged() {
        PixelPress press = new PixelPress();
        press.encode();
        check.due("setByte", 16, () -> press.setByte(9, 255));
        check.due("the byte", 255, () -> press.byteAt(9));
        check.due("setByte again", 255, () -> press.setByte(9, 0));
        check.due("the byte after it", 0, () -> press.byteAt(9));
        check.due("the byte ahead of it", 0, () -> press.byteAt(8));
        check.due("setByte at the front", 80, () -> press.setByte(0, 82));
        check.due("the first byte", 82, () -> press.byteAt(0));
        check.due("size", 10, press::size);
    }

    private void noSuchBytesAreRefused() {
        PixelPress press = new PixelPress();
        press.encode();
        String before = new Calls(press).state();
        for (int index : new int[] {-1, 10, 11, 511, 512, Integer.MIN_VALUE, Integer.MAX_VALUE}) {
            check.due("byteAt " + index, BAD_INDEX, () -> press.byteAt(index));
            check.due("setByte " + index, BAD_INDEX, () -> press.setByte(index, 1));
            check.due("setByte of no byte " + index, BAD_INDEX, () -> press.setByte(index, 256));
        }
        for (int value : new int[] {-1, 256, Integer.MIN_VALUE, Integer.MAX_VALUE}) {
            check.due("setByte of " + value, BAD_ARGUMENT, () -> press.setByte(9, value));
        }
        check.due("the state after it", before, () -> new Calls(press).state());
    }

    private void cutLeavesTheFront() {
        PixelPress press = new PixelPress();
        press.encode();
        check.due("cut of nothing", 0, () -> press.cut(10));
        check.due("cut", 3, () -> press.cut(7));
        dueStream("the rest", press, 80, 8, 8, 1, 1, 0, 2);
        check.due("setByte behind the end", BAD_INDEX, () -> press.setByte(7, 1));
        String before = new Calls(press).state();
        for (int size : new int[] {8, 10, -1, Integer.MIN_VALUE, Integer.MAX_VALUE}) {
            check.due("cut to " + size, BAD_ARGUMENT, () -> press.cut(size));
        }
        check.due("the state after it", before, () -> new Calls(press).state());
        check.due("cut of all", 7, () -> press.cut(0));
        dueStream("nothing", press);
        check.due("encode after it", 10, press::encode);
    }

    private void theStreamDoesNotFollowThePicture() {
        PixelPress press = new PixelPress();
        press.fill(0, 0, 8, 8, 7);
        press.encodePlain();
        press.set(0, 0, 9);
        press.setSteps(3, 0, 0);
        check.due("the pixel in the stream", 7, () -> press.byteAt(3));
        press.resize(1, 1);
        check.due("size", 67, press::size);
    }

    public static void main(String[] args) {
        StreamTest test = new StreamTest();
        test.aNewObjectIsEmpty();
        test.encodeOfAnEmptyPicture();
        test.encodeReplacesTheStream();
        test.partsFollowTheirHeaders();
        test.encodePlainWritesThePixels();
        test.bytesAreReadAndChanged();
        test.noSuchBytesAreRefused();
        test.cutLeavesTheFront();
        test.theStreamDoesNotFollowThePicture();
        test.check.end();
    }
}
