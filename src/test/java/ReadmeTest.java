import java.io.IOException;
import java.lang.reflect.Method;
import java.lang.reflect.Modifier;
import java.nio.file.Files;
import java.nio.file.Path;

/** What README.md tells. */
public final class ReadmeTest {
    private final Check check = new Check();

    private void theExampleHolds() {
        PixelPress press = new PixelPress();
        check.due("resize", 384, () -> press.resize(16, 24));
        press.ramp(0, 16, 9);
        press.fill(2, 2, 4, 4, 255);
        check.due("setSteps", 3, () -> press.setSteps(8, 3, 1));
        check.due("encode", 277, press::encode);
        check.due("about 0.716", true, () -> press.ratio() > 0.7155f && press.ratio() < 0.7165f);
        check.due("decode all", 0, () -> press.decode(3));
        check.due("isSame", true, press::isSame);
        press.decode(1);
        check.due("greatestError", 13, press::greatestError);
        press.cut(277 - 20);
        check.due("decode the rest", 2, () -> press.decode(3));
        check.due("squaredError", 943, press::squaredError);
    }

    private void everyCallIsNamed() throws IOException {
        String readme = Files.readString(Path.of("README.md"));
        for (Method method : PixelPress.class.getDeclaredMethods()) {
            if (Modifier.isPublic(method.getModifiers())) {
                check.due("README.md names " + method.getName(), true,
                        () -> readme.contains("`" + method.getName() + "`"));
            }
        }
    }

    public static void main(String[] args) throws IOException {
        ReadmeTest test = new ReadmeTest();
        test.theExampleHolds();
        test.everyCallIsNamed();
        test.check.end();
    }
}
