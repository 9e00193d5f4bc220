import java.io.IOException;
import java.nio.file.Files;
import java.nio.file.Path;
import java.util.regex.Matcher;
import java.util.regex.Pattern;

/** The calls that README.md shows, one behind the other on one house, answer what stands behind each. */
public final class ReadmeTest {
    private static final Due DUE = new Due("ReadmeTest");
    private static final Pattern SHOWN = Pattern.compile("house\\.(\\w+\\([^)]*\\)); *// (-?\\w+).*");
    private static final Pattern HEX = Pattern.compile("0x([0-9a-f]{1,8})");

    public static void main(String[] args) throws IOException {
        BudgetHouse house = new BudgetHouse();
        DUE.sentence("README.md", "Use");
        int calls = 0;
        for (String line : Files.readAllLines(Path.of("README.md"))) {
            Matcher shown = SHOWN.matcher(line.trim());
            if (shown.matches()) {
                calls++;
                DUE.is(shown.group(1), Calls.ask(house, decimal(shown.group(1))), Calls.number(shown.group(2)));
            } else {
                DUE.holds("not read: " + line, !line.startsWith("house."));
            }
        }
        DUE.holds("README.md shows " + calls + " calls", calls > 20);
        DUE.end();
    }

    private static String decimal(String call) {
        return HEX.matcher(call).replaceAll(hex -> "" + Integer.parseUnsignedInt(hex.group(1), 16));
    }
}
