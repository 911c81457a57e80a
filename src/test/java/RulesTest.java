import java.lang.reflect.Member;
import java.lang.reflect.Modifier;
import java.nio.file.Files;
import java.nio.file.Path;
import java.util.ArrayList;
import java.util.List;
import java.util.TreeSet;
import java.util.regex.Matcher;
import java.util.regex.Pattern;

/** What of ../shared/LANGUAGE.md a machine can see: the face, and words that the source must not hold. */
public final class RulesTest {
    private static final Due due = new Due("RulesTest");
    private static final String FACE = "BAD FULL NONE WheelSwing best carries clear count digest found hang "
        + "isClear lock mirror off pose push reading shim spring weight wheel";
    private static final String[] BARRED = {
        "import ", "package ", "Double.", "Float.", "Math.sqrt", "Math.floor(", "Exact(", "System.out", "StrictMath",
        "->", "::", "try ", "catch ", "finally", "synchronized", "assert ", "toString", "hashCode", "NaN", "while (true)"};

    public static void main(String[] args) throws Exception {
        face();
        source();
        due.end();
    }

    private static void face() {
        TreeSet<String> seen = new TreeSet<>();
        TreeSet<String> hidden = new TreeSet<>();
        List<Member> all = new ArrayList<>();
        all.addAll(List.of(WheelSwing.class.getDeclaredFields()));
        all.addAll(List.of(WheelSwing.class.getDeclaredMethods()));
        all.addAll(List.of(WheelSwing.class.getDeclaredConstructors()));
        for (Member m : all) {
            (Modifier.isPrivate(m.getModifiers()) ? hidden : seen).add(m.getName());
        }
        due.holds("the face is " + seen, String.join(" ", seen).equals(FACE));
        due.same("public methods", WheelSwing.class.getDeclaredMethods().length - hiddenMethods(), 18);
        hidden.retainAll(seen);
        due.holds("private members named as public ones: " + hidden, hidden.isEmpty());
        due.holds("the class is final", Modifier.isFinal(WheelSwing.class.getModifiers()));
        for (Class<?> inside : WheelSwing.class.getDeclaredClasses()) {
            due.holds(inside + " is private and static", Modifier.isPrivate(inside.getModifiers())
                && Modifier.isStatic(inside.getModifiers()));
        }
    }

    private static int hiddenMethods() {
        int hidden = 0;
        for (Member m : WheelSwing.class.getDeclaredMethods()) {
            hidden += Modifier.isPrivate(m.getModifiers()) ? 1 : 0;
        }
        return hidden;
    }

    private static void source() throws Exception {
        String text = Files.readString(Path.of("src/main/java/WheelSwing.java"));
        for (String word : BARRED) {
            String code = text.replaceAll("(?s)/\\*.*?\\*/", "").replaceAll("//[^\n]*", "");
            due.holds("the source is without " + word, !code.contains(word));
        }
        Matcher doubles = Pattern.compile("static final (double|float)").matcher(text);
        due.holds("no constant is a double", !doubles.find());
        Matcher made = Pattern.compile("\\bnew ").matcher(text);
        int news = 0;
        while (made.find()) {
            news++;
        }
        due.holds("objects are made with a WheelSwing, none by a call: " + news + " times new", news <= 9);
    }
}
