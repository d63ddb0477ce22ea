/** Promises 2 to 8: the picture. */
public final class PictureTest {
    private static final String BAD_INDEX = Check.thrown(IndexOutOfBoundsException.class);
    private static final String BAD_ARGUMENT = Check.thrown(IllegalArgumentException.class);
    private static final int[] NO_BYTES = {-1, 256, Integer.MIN_VALUE, Integer.MAX_VALUE};

    private final Check check = new Check();

    private void resizeMakesAnEmptyPicture() {
        PixelPress press = new PixelPress();
        press.fill(0, 0, 8, 8, 9);
        check.due("resize to 10 by 9", 90, () -> press.resize(10, 9));
        check.due("width", 10, press::width);
        check.due("height", 9, press::height);
        for (int i = 0; i < 90; i++) {
            int place = i;
            check.due("pixel " + i, 0, () -> press.pixel(place % 10, place / 10));
        }
        press.set(0, 0, 7);
        check.due("resize to the same size", 90, () -> press.resize(10, 9));
        check.due("pixel after it", 0, () -> press.pixel(0, 0));
        check.due("the least size", 1, () -> press.resize(1, 1));
        check.due("the greatest size", 384, () -> press.resize(16, 24));
    }

    private void resizeRefusesOtherSizes() {
        int[][] sizes = {{0, 5}, {17, 5}, {5, 0}, {5, 25}, {-1, -1}, {24, 16},
            {Integer.MAX_VALUE, 1}, {1, Integer.MIN_VALUE}};
        for (int[] size : sizes) {
            PixelPress press = new PixelPress();
            press.set(3, 3, 33);
            String before = new Calls(press).state();
            check.due("resize " + size[0] + ", " + size[1], BAD_ARGUMENT, () -> press.resize(size[0], size[1]));
            check.due("the state after it", before, () -> new Calls(press).state());
        }
    }

    private void setAnswersTheValueBefore() {
        PixelPress press = new PixelPress();
        press.resize(10, 9);
        check.due("the first set", 0, () -> press.set(9, 8, 255));
        check.due("the second set", 255, () -> press.set(9, 8, 0));
        check.due("the third set", 0, () -> press.set(9, 8, 12));
        check.due("the pixel", 12, () -> press.pixel(9, 8));
        check.due("its neighbour", 0, () -> press.pixel(8, 8));
    }

    private void setRefuses() {
        PixelPress press = new PixelPress();
        press.resize(10, 9);
        press.set(0, 0, 5);
        String before = new Calls(press).state();
        int[][] places = {{10, 8}, {9, 9}, {-1, 0}, {0, -1}, {Integer.MAX_VALUE, 0}, {0, Integer.MIN_VALUE}};
        for (int[] place : places) {
            check.due("set outside", BAD_INDEX, () -> press.set(place[0], place[1], 1));
            check.due("set of no byte outside", BAD_INDEX, () -> press.set(place[0], place[1], 256));
            check.due("pixel outside", BAD_INDEX, () -> press.pixel(place[0], place[1]));
        }
        for (int value : NO_BYTES) {
            check.due("set of " + value, BAD_ARGUMENT, () -> press.set(0, 0, value));
        }
        check.due("the state after it", before, () -> new Calls(press).state());
    }

    private void fillSetsJustItsArea() {
        PixelPress press = new PixelPress();
        press.resize(7, 6);
        press.fill(0, 0, 7, 6, 1);
        check.due("fill", 6, () -> press.fill(2, 1, 3, 2, 200));
        for (int i = 0; i < 42; i++) {
            int x = i % 7;
            int y = i / 7;
            boolean inside = x >= 2 && x < 5 && y >= 1 && y < 3;
            check.due("pixel " + x + ", " + y, inside ? 200 : 1, () -> press.pixel(x, y));
        }
        check.due("fill of the last pixel", 1, () -> press.fill(6, 5, 1, 1, 0));
        check.due("the last pixel", 0, () -> press.pixel(6, 5));
        check.due("fill of all", 42, () -> press.fill(0, 0, 7, 6, 255));
    }

    private void fillRefuses() {
        PixelPress press = new PixelPress();
        press.resize(7, 6);
        press.ramp(1, 2, 3);
        String before = new Calls(press).state();
        check.due("fill outside with all wrong", BAD_INDEX, () -> press.fill(7, 0, 0, 0, 256));
        check.due("fill outside below", BAD_INDEX, () -> press.fill(0, 6, 1, 1, 1));
        check.due("fill outside above", BAD_INDEX, () -> press.fill(0, -1, 1, 3, 1));
        check.due("fill outside left", BAD_INDEX, () -> press.fill(-1, 0, 3, 1, 1));
        for (int value : NO_BYTES) {
            check.due("fill with " + value, BAD_ARGUMENT, () -> press.fill(0, 0, 1, 1, value));
        }
        int[][] areas = {{0, 1}, {1, 0}, {-1, 1}, {1, -1}, {4, 1}, {1, 3}, {Integer.MAX_VALUE, 1},
            {1, Integer.MAX_VALUE}, {Integer.MIN_VALUE, 1}, {1, Integer.MIN_VALUE}};
        for (int[] area : areas) {
            check.due("fill of " + area[0] + " by " + area[1], BAD_ARGUMENT,
                    () -> press.fill(4, 4, area[0], area[1], 1));
        }
        check.due("the state after it", before, () -> new Calls(press).state());
    }

    private void rampSetsAllPixels() {
        PixelPress press = new PixelPress();
        press.resize(10, 9);
        check.due("ramp", 104, () -> press.ramp(3, 5, 7));
        for (int i = 0; i < 90; i++) {
            int x = i % 10;
            int y = i / 10;
            check.due("pixel " + x + ", " + y, (3 + 5 * x + 7 * y) % 256, () -> press.pixel(x, y));
        }
        check.due("the steepest ramp", (255 + 255 * 9 + 255 * 8) % 256, () -> press.ramp(255, 255, 255));
        check.due("the flat ramp", 0, () -> press.ramp(0, 0, 0));
    }

    private void rampRefuses() {
        PixelPress press = new PixelPress();
        press.ramp(1, 2, 3);
        String before = new Calls(press).state();
        for (int value : NO_BYTES) {
            check.due("ramp from " + value, BAD_ARGUMENT, () -> press.ramp(value, 0, 0));
            check.due("ramp right " + value, BAD_ARGUMENT, () -> press.ramp(0, value, 0));
            check.due("ramp down " + value, BAD_ARGUMENT, () -> press.ramp(0, 0, value));
        }
        check.due("the state after it", before, () -> new Calls(press).state());
    }

    private void sizeIsEightByEightAtFirst() {
        PixelPress press = new PixelPress();
        check.due("width at first", 8, press::width);
        check.due("height at first", 8, press::height);
        check.due("the last pixel at first", 0, () -> press.pixel(7, 7));
        check.due("no pixel at first", BAD_INDEX, () -> press.pixel(8, 7));
        press.resize(3, 20);
        check.due("width", 3, press::width);
        check.due("height", 20, press::height);
    }

    public static void main(String[] args) {
        PictureTest test = new PictureTest();
        test.resizeMakesAnEmptyPicture();
        test.resizeRefusesOtherSizes();
        test.setAnswersTheValueBefore();
        test.setRefuses();
        test.fillSetsJustItsArea();
        test.fillRefuses();
        test.rampSetsAllPixels();
        test.rampRefuses();
        test.sizeIsEightByEightAtFirst();
        test.check.end();
    }
}
