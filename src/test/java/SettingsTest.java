/** Promises 9 and 10: the layers and their steps. */
public final class SettingsTest {
    private static final String BAD_ARGUMENT = Check.thrown(IllegalArgumentException.class);

    private final Check check = new Check();

    private void stepsAreTakenOver() {
        int[][] all = {{1, 0, 0, 1}, {32, 0, 0, 1}, {32, 31, 0, 2}, {2, 1, 0, 2}, {32, 16, 8, 3}, {3, 2, 1, 3}};
        for (int[] steps : all) {
            PixelPress press = new PixelPress();
            check.due("setSteps", steps[3], () -> press.setSteps(steps[0], steps[1], steps[2]));
            press.encode();
            check.due("the layers of the stream", steps[3], () -> press.byteAt(3));
            for (int layer = 0; layer < steps[3]; layer++) {
                int index = layer;
                check.due("the step of the layer " + layer, steps[index], () -> press.byteAt(4 + index));
            }
        }
    }

    private void fewerLayersReplaceMore() {
        PixelPress press = new PixelPress();
        press.setSteps(9, 5, 1);
        check.due("isLossless of three", true, press::isLossless);
        press.setSteps(9, 5, 0);
        check.due("isLossless of two", false, press::isLossless);
        press.setSteps(1, 0, 0);
        check.due("isLossless of one", true, press::isLossless);
        check.due("encode of one", 10, press::encode);
    }

    private void otherStepsAreRefused() {
        int[][] all = {{0, 0, 0}, {-1, 0, 0}, {33, 0, 0}, {33, 5, 1}, {8, 33, 0}, {8, -1, 0}, {8, 5, 33}, {8, 5, -1},
            {0, 5, 0}, {0, 5, 1}, {8, 0, 1}, {8, 0, 33}, {8, 0, -1}, {8, 8, 0}, {8, 9, 0}, {8, 5, 5}, {8, 5, 6},
            {8, 8, 1}, {1, 1, 0}, {Integer.MIN_VALUE, 0, 0}, {Integer.MAX_VALUE, 3, 2}, {8, Integer.MIN_VALUE, 0},
            {8, 5, Integer.MIN_VALUE}, {8, 5, Integer.MAX_VALUE}};
        for (int[] steps : all) {
            PixelPress press = new PixelPress();
            press.setSteps(7, 3, 2);
            String name = "setSteps " + steps[0] + ", " + steps[1] + ", " + steps[2];
            check.due(name, BAD_ARGUMENT, () -> press.setSteps(steps[0], steps[1], steps[2]));
            press.encode();
            check.due("the layers after it", 3, () -> press.byteAt(3));
            check.due("the first step after it", 7, () -> press.byteAt(4));
            check.due("the second step after it", 3, () -> press.byteAt(5));
            check.due("the third step after it", 2, () -> press.byteAt(6));
        }
    }

    private void losslessLooksAtTheLastLayer() {
        PixelPress press = new PixelPress();
        check.due("isLossless at first", true, press::isLossless);
        press.setSteps(2, 0, 0);
        check.due("isLossless of 2", false, press::isLossless);
        press.setSteps(2, 1, 0);
        check.due("isLossless of 2, 1", true, press::isLossless);
        press.setSteps(32, 2, 1);
        check.due("isLossless of 32, 2, 1", true, press::isLossless);
        press.setSteps(32, 3, 2);
        check.due("isLossless of 32, 3, 2", false, press::isLossless);
    }

    public static void main(String[] args) {
        SettingsTest test = new SettingsTest();
        test.stepsAreTakenOver();
        test.fewerLayersReplaceMore();
        test.otherStepsAreRefused();
        test.losslessLooksAtTheLastLayer();
        test.check.end();
    }
}
