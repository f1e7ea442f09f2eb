import java.io.IOException;
import java.nio.file.Files;
import java.nio.file.Path;
import java.util.regex.Matcher;
import java.util.regex.Pattern;

/** The calls of README.md, in their order on one object, answer what stands behind them. */
public final class ReadmeTest {
    private static final Pattern TYPED = Pattern.compile("for \\(char c : \"(.*)\"\\.toCharArray\\(\\)\\) x\\.type\\(c\\);");
    private static final Pattern CALL = Pattern.compile("x\\.(\\w+\\(.*?\\)); *// (-?\\d+|[A-Z]+): .*");

    public static void main(String[] args) throws IOException {
        String page = Files.readString(Path.of("README.md"));
        int from = page.indexOf("```java\n") + 8;
        int to = page.indexOf("```", from);
        Check.holds("there is an example", from >= 8 && to > from);
        Calls run = new Calls("README.md");
        for (String line : page.substring(from, to).split("\n")) follow(run, line);
        Check.holds("the example has calls", run.made() > 20);
        Check.end("ReadmeTest");
    }

    private static void follow(Calls run, String line) {
        Matcher typed = TYPED.matcher(line);
        Matcher call = CALL.matcher(line);
        if (typed.matches()) {
            run.go("type[" + typed.group(1) + "]");
        } else if (call.matches()) {
            run.go(call.group(1).replace(" ", "") + "=" + call.group(2));
        } else {
            Check.holds("not read: " + line, line.isBlank() || line.equals("TornBag x = new TornBag();"));
        }
    }
}
