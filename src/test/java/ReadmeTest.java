import java.io.IOException;
import java.lang.reflect.Method;
import java.lang.reflect.Modifier;
import java.nio.file.Files;
import java.nio.file.Path;
import java.util.Set;
import java.util.TreeSet;
import java.util.regex.Matcher;
import java.util.regex.Pattern;

/**
 * README.md shows each call of the face with what it answers or throws; this makes those very calls.
 * A row there is "lathe.line(10, 30); // 1: ..", and each "new LathePieces()" begins a new object.
 */
public final class ReadmeTest {
    private static final Pattern ROW = Pattern.compile("lathe\\.((\\w+)\\(.*?\\));\\s*// (.*)");
    private static final Set<String> WITHOUT_ANSWER = Set.of("start", "thread");

    private ReadmeTest() {
    }

    public static void main(String[] args) throws IOException {
        Set<String> shown = new TreeSet<>();
        LathePieces made = null;
        for (String line : Files.readAllLines(Path.of("README.md"))) {
            if (line.contains("= new LathePieces();")) {
                made = new LathePieces();
            } else if (line.startsWith("lathe.")) {
                shown.add(ask(made, line));
            }
        }
        for (Method method : LathePieces.class.getDeclaredMethods()) {
            if (Modifier.isPublic(method.getModifiers())) {
                Script.check(shown.contains(method.getName()), "README.md does not show " + method.getName());
            }
        }
        Script.finish();
    }

    private static String ask(LathePieces made, String line) {
        Matcher row = ROW.matcher(line);
        if (made == null || !row.matches()) {
            Script.check(false, "README.md, not a row: " + line);
            return "";
        }
        String got = Script.tell(made, row.group(1));
        String due = row.group(3).split("[:, ]")[0];
        if (due.endsWith("Exception")) {
            due = "throws." + due;
        } else if (WITHOUT_ANSWER.contains(row.group(2))) {
            due = "null";
        }
        Script.check(got.equals(due), "README.md: " + line + " answered " + got);
        return row.group(2);
    }
}
