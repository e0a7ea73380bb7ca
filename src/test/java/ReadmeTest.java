import java.io.IOException;
import java.nio.file.Files;
import java.nio.file.Path;
import java.util.regex.Matcher;
import java.util.regex.Pattern;

/** The examples of README.md: each call there has the answer that the remark behind it begins with. */
public final class ReadmeTest {
    private static final Pattern CALL = Pattern.compile("\\s*k\\.(\\w+\\(.*\\));\\s*// (-?\\d+).*");

    public static void main(String[] args) throws IOException {
        Watchdog.start();
        CapTreeKernel kernel = null;
        int made = 0;
        int wrong = 0;
        for (String line : Files.readAllLines(Path.of("README.md"))) {
            if (line.contains("k = new CapTreeKernel()")) {
                kernel = new CapTreeKernel();
                continue;
            }
            Matcher m = CALL.matcher(line);
            if (kernel == null || !m.matches()) {
                continue;
            }
            made++;
            int got = new Call(m.group(1)).on(kernel);
            if (got != Integer.parseInt(m.group(2))) {
                wrong++;
                System.out.println("README.md: " + line.trim() + " answered " + got);
            }
        }
        System.out.println(made + " calls in README.md, " + wrong + " are not as told");
        if (made == 0 || wrong != 0) {
            System.exit(1);
        }
    }
}
