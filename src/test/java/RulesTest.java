import java.lang.reflect.Field;
import java.lang.reflect.Member;
import java.lang.reflect.Method;
import java.lang.reflect.Modifier;
import java.nio.file.Files;
import java.nio.file.Path;
import java.util.ArrayList;
import java.util.List;
import java.util.TreeSet;
import java.util.regex.Matcher;
import java.util.regex.Pattern;

/** What of ../shared/LANGUAGE.md a machine can see: the face, and words that the source must not hold. */
public final class RulesTest {
    private static final Due due = new Due("RulesTest");
    private static final String FACE = "BAD FULL NONE WheelSwing best carries clear count digest found hang "
        + "isClear lock mirror off pose push reading shim spring weight wheel";
    private static final String[] BARRED = {
        "import ", "package ", "Double.", "Float.", "Math.sqrt", "Math.floor(", "Exact(", "System.out", "StrictMath",
        "->", "::", "try ", "catch ", "finally", "synchronized", "assert ", "toString", "hashCode", "NaN", "while (true)"};

    public static void main(String[] args) throws Exception {
        face();
        sizes();
        source();
        due.end();
    }

    private static void face() {
        TreeSet<String> seen = new TreeSet<>();
        TreeSet<String> hidden = new TreeSet<>();
        List<Member> all = new ArrayList<>();
        all.addAll(List.of(WheelSwing.class.getDeclaredFields()));
        all.addAll(List.of(WheelSwing.class.getDeclaredMethods()));
        all.addAll(List.of(WheelSwing.class.getDeclaredConstructors()));
        for (Member m : all) {
            (Modifier.isPrivate(m.getModifiers()) ? hidden : seen).add(m.getName());
        }
        due.holds("the face is " + seen, String.join(" ", seen).equals(FACE));
        due.same("public methods", WheelSwing.class.getDeclaredMethods().length - hiddenMethods(), 18);
        hidden.retainAll(seen);
        due.holds("private members named as public ones: " + hidden, hidden.isEmpty());
        due.holds("the class is final", Modifier.isFinal(WheelSwing.class.getModifiers()));
        for (Class<?> inside : WheelSwing.class.getDeclaredClasses()) {
            due.holds(inside + " is private and static", Modifier.isPrivate(inside.getModifiers())
                && Modifier.isStatic(inside.getModifiers()));
        }
    }

    private static int hiddenMethods() {
        int hidden = 0;
        for (Member m : WheelSwing.class.getDeclaredMethods()) {
            hidden += Modifier.isPrivate(m.getModifiers()) ? 1 : 0;
        }
        return hidden;
    }

    /** Rule 11, and rule 5's static fields. */
    private static void sizes() {
        List<Class<?>> classes = new ArrayList<>(List.of(WheelSwing.class.getDeclaredClasses()));
        classes.add(WheelSwing.class);
        due.holds("some twelve classes at most", classes.size() <= 12);
        for (Class<?> c : classes) {
            int kept = 0;
            for (Field f : c.getDeclaredFields()) {
                boolean isStatic = Modifier.isStatic(f.getModifiers());
                kept += isStatic ? 0 : 1;
                due.holds(f + " is final, if static", !isStatic || Modifier.isFinal(f.getModifiers()));
            }
            due.holds(c + " keeps some twenty fields at most", kept <= 20);
            for (Method m : c.getDeclaredMethods()) {
                boolean isTold = Modifier.isPublic(m.getModifiers());
                due.holds(m + " takes seven parameters at most", isTold || m.getParameterCount() <= 7);
            }
        }
    }

    private static void source() throws Exception {
        String text = Files.readString(Path.of("src/main/java/WheelSwing.java"));
        for (String word : BARRED) {
            String code = text.replaceAll("(?s)/\\*.*?\\*/", "").replaceAll("//[^\n]*", "");
            due.holds("the source is without " + word, !code.contains(word));
        }
        due.holds("the source's signs are 1 to 127", text.chars().allMatch(sign -> sign >= 1 && sign <= 127));
        Matcher doubles = Pattern.compile("static final (double|float)").matcher(text);
        due.holds("no constant is a double", !doubles.find());
        Matcher made = Pattern.compile("\\bnew ").matcher(text);
        int news = 0;
        while (made.find()) {
            news++;
        }
        due.holds("objects are made with a WheelSwing, none by a call: " + news + " times new", news <= 9);
    }
}
