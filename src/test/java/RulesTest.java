import java.io.IOException;
import java.lang.reflect.Field;
import java.lang.reflect.Method;
import java.lang.reflect.Modifier;
import java.nio.file.Files;
import java.nio.file.Path;
import java.util.ArrayList;
import java.util.List;
import java.util.Set;
import java.util.regex.Matcher;
import java.util.regex.Pattern;

/** Those rules of ../shared/LANGUAGE.md that the program's text and its classes show by themselves. */
public final class RulesTest {
    private static final Path PROGRAM = Path.of("src/main/java/LathePieces.java");
    /** Rules 2, 6, 13, and what rule 4 leaves out: words that must not stand in the program. */
    private static final List<String> NO_WORDS = List.of("try", "catch", "finally", "synchronized", "assert",
            "package", "protected", "var", "volatile", "native", "transient", "System", "Thread", "Random",
            "equals", "hashCode", "toString", "instanceof", "Object");
    private static final List<String> NO_SIGNS = List.of("->", "::", "Exact", "@", "while (true)", "for (;;)");
    /** Rule 4, as far as the program needs it. */
    private static final Set<String> LIBRARY =
            Set.of("Math.min", "Math.max", "Math.abs", "Math.floorDiv", "Arrays.copyOf");
    /** Rule 6. */
    private static final Pattern THROW = Pattern.compile(
            "throw new (IllegalStateException|IllegalArgumentException|IndexOutOfBoundsException)\\(\"[^\"]*\"\\);");

    private RulesTest() {
    }

    public static void main(String[] args) throws IOException {
        String text = Files.readString(PROGRAM);
        String code = withoutTexts(text);
        words(code);
        library(code);
        exceptions(text);
        methodLengths(code);
        List<Class<?>> classes = new ArrayList<>(List.of(LathePieces.class));
        classes.addAll(List.of(LathePieces.class.getDeclaredClasses()));
        Script.check(classes.size() <= 12, "rule 11: more than twelve classes");
        for (Class<?> owner : classes) {
            members(owner);
        }
        Script.finish();
    }

    private static String withoutTexts(String text) {
        return text.replaceAll("(?s)/\\*.*?\\*/", "").replaceAll("//[^\n]*", "").replaceAll("\"[^\"]*\"", "\"\"");
    }

    private static void words(String code) {
        for (String word : NO_WORDS) {
            Script.check(!Pattern.compile("\\b" + word + "\\b").matcher(code).find(), "not in the rules: " + word);
        }
        for (String sign : NO_SIGNS) {
            Script.check(!code.contains(sign), "not in the rules: " + sign);
        }
    }

    private static void library(String code) {
        Matcher imported = Pattern.compile("import ([^;]*);").matcher(code);
        while (imported.find()) {
            Script.check(imported.group(1).equals("java.util.Arrays"), "rule 4: import of " + imported.group(1));
        }
        String body = code.substring(code.indexOf("public final class"));
        Matcher used = Pattern.compile("\\b[A-Z][a-z]\\w*\\.\\w+").matcher(body);
        while (used.find()) {
            Script.check(LIBRARY.contains(used.group()), "rule 4: " + used.group());
        }
    }

    private static void exceptions(String text) {
        Matcher word = Pattern.compile("\\bthrow\\b").matcher(text);
        while (word.find()) {
            String rest = text.substring(word.start(), text.indexOf('\n', word.start()));
            Script.check(THROW.matcher(rest).matches(), "rule 6: " + rest);
        }
    }

    /** Rule 11: a method's text goes from its head to the bracket that closes on the same column. */
    private static void methodLengths(String code) {
        String[] lines = code.split("\n");
        Pattern head = Pattern.compile("( +)[\\w\\[\\]<> ]+\\([^;=]*(\\{|throws.*|\\))?");
        for (int from = 0; from < lines.length; from++) {
            Matcher found = head.matcher(lines[from]);
            boolean atMember = found.matches() && (found.group(1).length() == 4 || found.group(1).length() == 8);
            for (int to = from; atMember && to < lines.length; to++) {
                if (lines[to].equals(found.group(1) + "}")) {
                    Script.check(to - from <= 60, "rule 11: long: " + lines[from]);
                    break;
                }
            }
        }
    }

    private static void members(Class<?> owner) {
        int fields = 0;
        for (Field field : owner.getDeclaredFields()) {
            boolean isStatic = Modifier.isStatic(field.getModifiers());
            fields += isStatic ? 0 : 1;
            Script.check(!isStatic || Modifier.isFinal(field.getModifiers()), "rule 5: not final: " + field);
            Script.check(!isStatic || field.getType() == int.class, "rule 5: not a plain constant: " + field);
            Script.check(!field.isSynthetic(), "rule 2: hands on an outer object: " + field);
        }
        Script.check(fields <= 20, "rule 11: too many fields in " + owner);
        for (Method method : owner.getDeclaredMethods()) {
            Script.check(method.getParameterCount() <= 7, "rule 11: too many parameters: " + method);
        }
    }
}
