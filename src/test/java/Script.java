import java.lang.reflect.InvocationTargetException;
import java.lang.reflect.Method;
import java.util.HashMap;
import java.util.Map;
import java.util.regex.Matcher;
import java.util.regex.Pattern;

/**
 * Runs of calls written as text, one call a line: "line(4, 10) = 1". What is due may be a number,
 * true, false, or throws.IllegalStateException; a call without "=" must end without an exception.
 * The exception's class must be the very one: what the machine throws (a class below) is wrong too.
 */
final class Script {
    private static final Pattern ROW = Pattern.compile("(\\w+)\\((.*?)\\)(?:\\s*=\\s*(\\S+))?");
    private static final Map<String, Method> METHODS = new HashMap<>();
    private static int wrong = 0;
    private static int asked = 0;

    static {
        for (Method method : LathePieces.class.getMethods()) {
            if (method.getDeclaringClass() == LathePieces.class) {
                METHODS.put(method.getName(), method);
            }
        }
    }

    private Script() {
    }

    /** On a new object, which is handed out at the end. */
    static LathePieces run(String name, String... parts) {
        LathePieces made = new LathePieces();
        for (String line : String.join("\n", parts).split("\n")) {
            if (!line.isBlank()) {
                ask(name, made, line.strip());
            }
        }
        return made;
    }

    private static void ask(String name, LathePieces made, String line) {
        Matcher row = matched(line);
        String due = row.group(3) == null ? "null" : row.group(3);
        String got = tell(made, line);
        check(got.equals(due), name + ": " + line + " answered " + got);
    }

    private static Matcher matched(String line) {
        Matcher row = ROW.matcher(line);
        if (!row.matches()) {
            throw new IllegalArgumentException("not a row: " + line);
        }
        return row;
    }

    /** What a call written as text answers, whatever its row says is due. */
    static String tell(LathePieces made, String line) {
        Matcher row = matched(line);
        return answer(made, row.group(1), arguments(row.group(2)));
    }

    private static Object[] arguments(String text) {
        if (text.isBlank()) {
            return new Object[0];
        }
        String[] words = text.split(",");
        Object[] values = new Object[words.length];
        for (int n = 0; n < words.length; n++) {
            String word = words[n].strip();
            boolean truth = word.equals("true") || word.equals("false");
            values[n] = truth ? (Object) Boolean.valueOf(word) : (Object) Integer.valueOf(word);
        }
        return values;
    }

    static String answer(LathePieces made, String method, Object... values) {
        try {
            return String.valueOf(METHODS.get(method).invoke(made, values));
        } catch (InvocationTargetException e) {
            return "throws." + e.getCause().getClass().getSimpleName();
        } catch (IllegalAccessException e) {
            throw new IllegalArgumentException(e);
        }
    }

    static void check(boolean holds, String what) {
        asked++;
        if (!holds) {
            wrong++;
            System.out.println(what);
        }
    }

    static void finish() {
        System.out.println(asked + " rows asked, " + wrong + " wrong");
        if (wrong != 0 || asked == 0) {
            System.exit(1);
        }
    }
}
