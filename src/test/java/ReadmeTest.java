import java.io.IOException;
import java.nio.charset.StandardCharsets;
import java.nio.file.Files;
import java.nio.file.Path;
import java.util.HashSet;
import java.util.Set;
import java.util.regex.Matcher;
import java.util.regex.Pattern;

/** The calls that README.md shows answer what it says behind them. */
public final class ReadmeTest {
    private static final Pattern CALL = Pattern.compile("x\\.(\\w+)\\((.*)\\);\\s+// (-?\\d+)\\b.*");

    public static void main(String[] args) throws IOException {
        Asked x = new Asked();
        Set<String> names = new HashSet<>();
        for (String line : Files.readAllLines(Path.of("README.md"), StandardCharsets.UTF_8)) {
            Matcher call = CALL.matcher(line);
            if (call.matches()) {
                names.add(call.group(1));
                String told = call.group(2).replace(",", " ").replace("true", "1").replace("false", "0");
                x.due(call.group(1) + " " + told, Integer.parseInt(call.group(3)));
            } else {
                Asked.check(!line.startsWith("x."), "no answer is said of " + line);
            }
        }
        Asked.check(names.size() >= 25, "most of the face is shown: " + names.size());
        Asked.end("readme");
    }
}
