import java.nio.file.Files;
import java.nio.file.Path;
import java.util.List;
import java.util.regex.Matcher;
import java.util.regex.Pattern;

/** What README.md says of using the class holds: its example is read and played, and it names every call. */
public final class ReadmeTest {
    private static final Due due = new Due("ReadmeTest");
    private static final Pattern LINE = Pattern.compile(
        "(double \\w+ = Double\\.longBitsToDouble\\()?x\\.(\\w+)\\(([-\\d, ]*)\\)+; +// (-?[\\d.]+).*");

    public static void main(String[] args) throws Exception {
        List<String> lines = Files.readAllLines(Path.of("README.md"));
        example(lines);
        names(String.join("\n", lines));
        due.end();
    }

    private static void example(List<String> lines) {
        int at = lines.indexOf("```java");
        due.holds("an example", at >= 0 && lines.get(at + 1).equals("WheelSwing x = new WheelSwing();"));
        WheelSwing x = new WheelSwing();
        for (int i = at + 2; i < lines.size() && !lines.get(i).equals("```"); i++) {
            Matcher m = LINE.matcher(lines.get(i));
            due.holds("a call with its answer: " + lines.get(i), m.matches());
            if (m.matches()) {
                play(x, m);
            }
        }
    }

    private static void play(WheelSwing x, Matcher m) {
        String[] told = m.group(3).isEmpty() ? new String[0] : m.group(3).split(", ");
        int[] numbers = new int[told.length];
        for (int i = 0; i < told.length; i++) {
            numbers[i] = Integer.parseInt(told[i]);
        }
        long answer = Calls.valueOf(m.group(2).toUpperCase(java.util.Locale.ROOT)).ask(x, numbers);
        if (m.group(1) == null) {
            due.same(m.group(), answer, Long.parseLong(m.group(4)));
        } else {
            due.tells(m.group(), answer, Double.parseDouble(m.group(4)));
        }
    }

    private static void names(String text) {
        for (java.lang.reflect.Method call : WheelSwing.class.getDeclaredMethods()) {
            if (java.lang.reflect.Modifier.isPublic(call.getModifiers())) {
                due.holds("a word on " + call.getName(), text.contains("`" + call.getName() + "("));
            }
        }
        for (String run : new String[] {".ci/run", "../shared/tests", "../shared/DOC.md", "../shared/LANGUAGE.md"}) {
            due.holds("a word on " + run, text.contains("`" + run + "`"));
        }
    }
}
