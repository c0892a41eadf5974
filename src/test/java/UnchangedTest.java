import java.util.ArrayList;
import java.util.List;

/**
 * "A call that throws changes nothing": two objects with the same past, one of which gets a call more
 * that throws (or an arc that does not fit, or a call that only asks); then both must answer alike.
 */
public final class UnchangedTest {
    private static final String INDEX = "throws.IndexOutOfBoundsException";
    private static final String ARGUMENT = "throws.IllegalArgumentException";
    private static final String STATE = "throws.IllegalStateException";

    private static final String NEW = "";
    private static final String BEGUN = "start(7)\n";
    /** Some of each, with room for more. */
    private static final String MIDDLE = """
        start(7)
        line(3, 12) = 1
        turn() = 0
        arc(13, 12, 8, 0, true) = true
        turn() = 1
        line(20, 2) = 3
        tool(2) = 0
        tool(7) = 1
        ring() = 0
        ring() = 1
        wedge(0, 100, 3) = 1
        wedge(0, 50, 7) = 2
        wedge(1, 360, 1) = 1
        thread(5, 8)
        row(9, 3000) = 1
        row(12, 2000) = 2
        """;
    private static final String FULL = full();
    private static final List<String> LOOK = look();
    private static final List<String> GO_ON = goOn();

    private UnchangedTest() {
    }

    public static void main(String[] args) {
        profiles();
        pieces();
        tools();
        rough();
        steadies();
        wood();
        rings();
        fractions();
        rows();
        onlyAsked();
        Script.finish();
    }

    /** No room for a piece, a tool, a ring, a wedge in ring 0, a row or a way. */
    private static String full() {
        StringBuilder calls = new StringBuilder("start(7)\n");
        for (int n = 0; n < 6; n++) {
            calls.append("line(" + (n + 2) + ", " + 9 * n + ") = " + (n + 1) + "\n");
            calls.append("turn() = " + n + "\n");
            calls.append("tool(" + 2 * n + ") = " + n + "\n");
            calls.append("ring() = " + n + "\n");
        }
        for (int n = 1; n <= 16; n++) {
            calls.append("wedge(0, " + 11 * n + ", 7) = " + n + "\n");
        }
        for (int n = 1; n <= 8; n++) {
            calls.append("row(" + 5 * n + ", " + 100 * n + ") = " + n + "\n");
        }
        return calls + "wedge(3, 5, 4) = 1\nthread(9, 16)\nline(64, 3) = 7\n";
    }

    /** All that an object shows without being changed. */
    private static List<String> look() {
        List<String> calls = new ArrayList<>();
        for (int piece = 0; piece < 6; piece++) {
            for (String tail : List.of("radius(%, #)", "speed(%, #)")) {
                for (int x : new int[] {0, 1, 2, 3, 5, 7, 8, 13, 20}) {
                    calls.add(tail.replace("%", "" + piece).replace("#", "" + x));
                }
            }
            for (int what = 0; what < 3; what++) {
                calls.add("about(" + piece + ", " + what + ")");
            }
            for (int tool = 0; tool < 6; tool++) {
                calls.add("left(" + piece + ", " + tool + ")");
                calls.add("passes(" + piece + ", " + tool + ", 2, 1)");
                calls.add("reached(" + piece + ", " + tool + ", 1)");
            }
            calls.add("volume(" + piece + ", true)");
            calls.add("volume(" + piece + ", false)");
            calls.add("steady(" + piece + ", 3, 0)");
            calls.add("hollow(" + piece + ", 2, 1)");
            calls.add("copy(" + piece + ", 0)");
        }
        for (int ring = 0; ring < 6; ring++) {
            calls.add("closes(" + ring + ")");
            calls.add("gap(" + ring + ", 0)");
            calls.add("gap(" + ring + ", 1)");
            for (int wedge : new int[] {0, 1, 2, 15}) {
                calls.add("mitre(" + ring + ", " + wedge + ", 0)");
                calls.add("mitre(" + ring + ", " + wedge + ", 1)");
            }
        }
        calls.add("threadAt(3, 0)");
        calls.add("threadAt(3, 1)");
        return calls;
    }

    /** Calls that build on what is there, and what that shows. */
    private static List<String> goOn() {
        List<String> calls = new ArrayList<>(List.of(
                "turn()", "line(63, 8)", "line(64, 30)", "turn()", "tool(11)", "ring()", "row(60, 55)"));
        for (int ring = 0; ring < 6; ring++) {
            calls.add("wedge(" + ring + ", 33, 2)");
            calls.add("gap(" + ring + ", 0)");
        }
        for (int piece = 0; piece < 6; piece++) {
            calls.add("about(" + piece + ", 0)");
            calls.add("about(" + piece + ", 2)");
            for (int x : new int[] {0, 1, 3, 5, 13, 20, 21, 40, 63, 64}) {
                calls.add("radius(" + piece + ", " + x + ")");
                calls.add("speed(" + piece + ", " + x + ")");
            }
            for (int tool = 0; tool < 6; tool++) {
                calls.add("reached(" + piece + ", " + tool + ", 1)");
            }
        }
        calls.add("threadAt(7, 0)");
        calls.add("start(3)");
        calls.add("line(1, 4)");
        calls.add("turn()");
        return calls;
    }

    private static void same(String before, String call, String due) {
        for (List<String> questions : List.of(LOOK, GO_ON)) {
            LathePieces one = Script.run("before " + call, before);
            LathePieces other = Script.run("before " + call, before);
            String got = Script.tell(one, call);
            Script.check(got.equals(due), call + " must be " + due + ", answered " + got);
            for (String question : questions) {
                String with = Script.tell(one, question);
                String without = Script.tell(other, question);
                Script.check(with.equals(without), "behind " + call + ": " + question + " answered " + with
                        + ", without that call " + without);
            }
        }
    }

    private static void all(String due, String before, String... calls) {
        for (String call : calls) {
            same(before, call, due);
        }
    }

    private static void profiles() {
        for (String before : List.of(NEW, BEGUN, MIDDLE, FULL)) {
            all(ARGUMENT, before, "start(-1)", "start(501)", "line(0, 5)", "line(65, 5)", "line(64, -1)",
                    "line(64, 501)", "arc(65, 7, 3, 7, true)", "arc(64, -1, 3, 7, true)", "arc(64, 501, 3, 7, true)",
                    "arc(64, 7, -201, 7, true)", "arc(64, 7, 301, 7, true)", "arc(64, 7, 32, -1001, true)",
                    "arc(64, 7, 32, 1501, false)");
        }
        all(ARGUMENT, MIDDLE, "line(20, 9)", "line(1, 9)", "arc(20, 2, 20, 2, true)", "arc(19, 3, 19, 2, true)");
        all(ARGUMENT, FULL, "line(64, 9)", "arc(64, 3, 64, 3, true)");
        all(STATE, NEW, "line(5, 5)", "arc(4, 5, 2, 5, true)", "turn()");
        all("false", BEGUN, "arc(4, 8, 2, 7, true)", "arc(4, 7, 2, 8, true)", "arc(4, 7, 2, 6, false)");
        all("false", MIDDLE, "arc(24, 3, 22, 2, true)", "arc(24, 2, 22, 3, true)", "arc(24, 2, 22, 1, false)");
    }

    private static void pieces() {
        all(STATE, BEGUN, "turn()");
        all(STATE, FULL, "turn()");
        all(STATE, MIDDLE + "start(9)\n", "turn()");
        all(INDEX, MIDDLE, "radius(2, 0)", "radius(-1, 0)", "radius(0, 4)", "radius(0, -1)", "radius(6, 0)",
                "about(2, 0)", "about(-1, 0)", "about(0, 3)", "about(0, -1)");
        all(INDEX, FULL, "radius(6, 0)", "radius(0, 3)", "about(6, 0)", "about(0, 3)");
    }

    private static void tools() {
        all(ARGUMENT, NEW, "tool(-1)", "tool(13)");
        all(ARGUMENT, MIDDLE, "tool(-1)", "tool(13)");
        all(ARGUMENT, FULL, "tool(-1)", "tool(13)");
        all(STATE, FULL, "tool(0)", "tool(12)");
        all(INDEX, MIDDLE, "reached(2, 0, 0)", "reached(-1, 0, 0)", "reached(0, 2, 0)", "reached(0, -1, 0)",
                "reached(0, 0, 4)", "reached(0, 0, -1)", "left(2, 0)", "left(0, 2)", "left(-1, 0)", "left(0, -1)");
    }

    private static void rough() {
        all(INDEX, MIDDLE, "passes(2, 0, 1, 0)", "passes(0, 2, 1, 0)", "cut(2, 0, 1, 0, 1)", "cut(0, 2, 1, 0, 1)");
        all(ARGUMENT, MIDDLE, "passes(0, 0, 0, 0)", "passes(0, 0, 101, 0)", "passes(0, 0, 1, -1)",
                "passes(0, 0, 1, 51)", "cut(0, 0, 0, 0, 1)", "cut(0, 0, 101, 0, 1)", "cut(0, 0, 1, -1, 1)",
                "cut(0, 0, 1, 51, 1)", "cut(0, 0, 1, 0, 0)");
    }

    private static void steadies() {
        all(INDEX, MIDDLE, "steady(2, 1, 0)", "steady(-1, 1, 0)");
        all(ARGUMENT, MIDDLE, "steady(0, 0, 0)", "steady(0, 501, 0)", "steady(0, 1, -1)");
        all(STATE, MIDDLE, "steady(0, 1, 0)", "steady(1, 500, 12)", "steady(1, 500, 2147483647)");
    }

    private static void wood() {
        all(INDEX, MIDDLE, "volume(2, true)", "volume(-1, false)", "hollow(2, 1, 0)", "hollow(-1, 1, 0)",
                "copy(0, 2)", "copy(2, 0)", "copy(-1, 0)", "copy(0, -1)");
        all(ARGUMENT, MIDDLE, "hollow(0, 0, 0)", "hollow(0, 101, 0)", "hollow(0, 1, -1)", "hollow(0, 1, 101)");
    }

    private static void rings() {
        all(STATE, FULL, "ring()", "wedge(0, 1, 1)", "wedge(0, 3600, 12)");
        all(ARGUMENT, MIDDLE, "wedge(0, 0, 1)", "wedge(0, 3601, 1)", "wedge(0, 1, 0)", "wedge(0, 1, 13)");
        all(ARGUMENT, FULL, "wedge(0, 0, 1)", "wedge(1, 3601, 1)", "wedge(1, 1, 0)", "wedge(1, 1, 13)");
        all(INDEX, NEW, "wedge(0, 1, 1)", "mitre(0, 0, 0)", "gap(0, 0)", "closes(0)");
        all(INDEX, MIDDLE, "wedge(2, 1, 1)", "wedge(-1, 1, 1)", "wedge(6, 1, 1)", "mitre(2, 0, 0)", "mitre(0, 2, 0)",
                "mitre(0, -1, 0)", "mitre(0, 0, 2)", "gap(2, 0)", "gap(0, 2)", "gap(0, -1)", "closes(2)", "closes(-1)");
    }

    private static void fractions() {
        for (String before : List.of(NEW, MIDDLE, FULL)) {
            all(INDEX, before, "flute(7, 3, 2)", "flute(7, 3, -1)", "threadAt(3, 2)", "threadAt(3, -1)");
            all(ARGUMENT, before, "flute(0, 0, 0)", "flute(1001, 0, 0)", "flute(7, 7, 0)", "flute(7, -1, 0)",
                    "thread(0, 5)", "thread(1001, 5)", "thread(5, 0)", "thread(5, 1001)", "threadAt(-1, 0)",
                    "threadAt(100001, 0)");
        }
        all(STATE, NEW, "threadAt(3, 0)", "threadAt(0, 1)");
    }

    private static void rows() {
        all(ARGUMENT, NEW, "row(0, 5)", "row(501, 5)", "row(5, 0)", "row(5, 10001)");
        all(ARGUMENT, MIDDLE, "row(12, 5)", "row(11, 5)", "row(0, 5)", "row(501, 5)", "row(13, 0)", "row(13, 10001)");
        all(ARGUMENT, FULL, "row(40, 5)", "row(501, 5)", "row(41, 0)", "row(41, 10001)");
        all(STATE, FULL, "row(41, 5)", "row(500, 10000)");
        all(INDEX, MIDDLE, "speed(2, 0)", "speed(-1, 0)", "speed(0, 4)", "speed(0, -1)");
        all(STATE, BEGUN + "line(4, 4) = 1\nturn() = 0\n", "speed(0, 0)", "speed(0, 4)");
    }

    /** No promise says that asking changes anything. */
    private static void onlyAsked() {
        for (String call : LOOK) {
            same(MIDDLE, call, Script.tell(Script.run("before " + call, MIDDLE), call));
        }
    }
}
