/**
 * Promises 2 to 26: each range that a promise names, at its least and its greatest number and beyond
 * them on either side. The number asked about stands as # in the call.
 */
public final class RangesTest {
    private static final String INDEX = "throws.IndexOutOfBoundsException";
    private static final String ARGUMENT = "throws.IllegalArgumentException";
    private static final String STATE = "throws.IllegalStateException";
    private static final int MOST = Integer.MAX_VALUE;

    /** Two pieces, the first with places 0 .. 9, two tools, two rings, three wedges in the first. */
    private static final String MADE = """
        start(5)
        line(9, 40) = 1
        turn() = 0
        line(20, 40) = 2
        turn() = 1
        tool(0) = 0
        tool(4) = 1
        ring() = 0
        ring() = 1
        wedge(0, 30, 1) = 1
        wedge(0, 31, 2) = 2
        wedge(0, 32, 3) = 3
        thread(3, 4)
        row(20, 900) = 1
        """;
    private static final String FULL_OF_EACH = """
        start(5)
        line(9, 40) = 1
        turn() = 0
        turn() = 1
        turn() = 2
        turn() = 3
        turn() = 4
        turn() = 5
        tool(0) = 0
        tool(1) = 1
        tool(2) = 2
        tool(3) = 3
        tool(4) = 4
        tool(5) = 5
        ring() = 0
        ring() = 1
        ring() = 2
        ring() = 3
        ring() = 4
        ring() = 5
        row(20, 900) = 1
        """;

    private RangesTest() {
    }

    public static void main(String[] args) {
        profiles();
        pieces();
        tools();
        rough();
        wood();
        rings();
        flutesAndThreads();
        rows();
        Script.finish();
    }

    /** What lies in the range is answered without an exception; what lies beyond throws this one. */
    private static void range(String before, String call, int least, int most, String due) {
        within(before, call, least);
        within(before, call, most);
        beyond(before, call, due, least - 1, Integer.MIN_VALUE);
        if (most != MOST) {
            beyond(before, call, due, most + 1, MOST);
        }
    }

    private static void within(String before, String call, int number) {
        String line = call.replace("#", "" + number);
        String got = Script.tell(Script.run("before " + line, before), line);
        Script.check(!got.startsWith("throws."), line + " is in its range, answered " + got);
    }

    private static void beyond(String before, String call, String due, int... numbers) {
        for (int number : numbers) {
            String line = call.replace("#", "" + number);
            String got = Script.tell(Script.run("before " + line, before), line);
            Script.check(got.equals(due), line + " must be " + due + ", answered " + got);
        }
    }

    private static void profiles() {
        range("", "start(#)", 0, 500, ARGUMENT);
        String begun = "start(5)\n";
        range(begun, "line(#, 5)", 1, 64, ARGUMENT);
        range(begun, "line(1, #)", 0, 500, ARGUMENT);
        range(begun, "line(64, #)", 0, 500, ARGUMENT);
        range(begun, "arc(#, 5, 1, 5, true)", 1, 64, ARGUMENT);
        range(begun, "arc(2, #, 1, 5, true)", 0, 500, ARGUMENT);
        range(begun, "arc(2, 5, #, 5, true)", -200, 300, ARGUMENT);
        range(begun, "arc(2, 5, #, 5, false)", -200, 300, ARGUMENT);
        range(begun, "arc(2, 5, 1, #, true)", -1000, 1500, ARGUMENT);
        range(begun, "arc(2, 5, 1, #, false)", -1000, 1500, ARGUMENT);
        range("start(5)\nline(7, 9) = 1", "line(#, 5)", 8, 64, ARGUMENT);
        range("start(5)\nline(7, 9) = 1", "arc(#, 5, 1, 5, true)", 8, 64, ARGUMENT);
        range("start(5)\narc(10, 5, 5, 5, true) = true", "line(#, 5)", 11, 64, ARGUMENT);
        range("start(5)\narc(10, 5, 5, 5, true) = true", "arc(#, 5, 1, 5, true)", 11, 64, ARGUMENT);
        range("start(5)\nline(63, 9) = 1", "line(#, 5)", 64, 64, ARGUMENT);
    }

    private static void pieces() {
        String[] ofPiece = {
            "radius(#, 0)", "about(#, 0)", "about(#, 1)", "about(#, 2)", "reached(#, 0, 0)", "left(#, 0)",
            "passes(#, 0, 1, 0)", "cut(#, 0, 1, 0, 1)", "steady(#, 500, 0)", "volume(#, true)",
            "volume(#, false)", "hollow(#, 1, 0)", "copy(#, 0)", "copy(0, #)", "speed(#, 0)",
        };
        for (String call : ofPiece) {
            range(MADE, call, 0, 1, INDEX);
            range(FULL_OF_EACH, call, 0, 5, INDEX);
        }
        range(MADE, "about(0, #)", 0, 2, INDEX);
        String[] ofPlace = {"radius(%, #)", "reached(%, 0, #)", "reached(%, 1, #)", "speed(%, #)"};
        for (String call : ofPlace) {
            range(MADE, call.replace("%", "0"), 0, 9, INDEX);
            range(MADE, call.replace("%", "1"), 0, 20, INDEX);
        }
        String longest = "start(5)\nline(64, 9) = 1\nturn() = 0\ntool(12) = 0\nrow(1, 1) = 1";
        range(longest, "radius(0, #)", 0, 64, INDEX);
        range(longest, "reached(0, 0, #)", 0, 64, INDEX);
        range(longest, "speed(0, #)", 0, 64, INDEX);
    }

    private static void tools() {
        range("", "tool(#)", 0, 12, ARGUMENT);
        range(MADE, "tool(#)", 0, 12, ARGUMENT);
        String[] ofTool = {"reached(0, #, 0)", "left(0, #)", "passes(0, #, 1, 0)", "cut(0, #, 1, 0, 1)"};
        for (String call : ofTool) {
            range(MADE, call, 0, 1, INDEX);
            range(FULL_OF_EACH, call, 0, 5, INDEX);
        }
    }

    private static void rough() {
        range(MADE, "passes(0, 0, #, 0)", 1, 100, ARGUMENT);
        range(MADE, "passes(0, 0, 1, #)", 0, 50, ARGUMENT);
        range(MADE, "cut(0, 0, #, 0, 1)", 1, 100, ARGUMENT);
        range(MADE, "cut(0, 0, 1, #, 1)", 0, 50, ARGUMENT);
        range(MADE, "cut(0, 0, 1, 0, #)", 1, MOST, ARGUMENT);
        range(MADE, "cut(0, 0, 100, 50, #)", 1, MOST, ARGUMENT);
    }

    private static void wood() {
        range(MADE, "steady(1, #, 0)", 1, 500, ARGUMENT);
        within(MADE, "steady(1, 500, #)", 0);
        within(MADE, "steady(1, 500, #)", 18);
        beyond(MADE, "steady(1, 500, #)", ARGUMENT, -1, Integer.MIN_VALUE);
        beyond(MADE, "steady(1, 500, #)", STATE, 19, 20, MOST);
        range(MADE, "hollow(0, #, 0)", 1, 100, ARGUMENT);
        range(MADE, "hollow(0, 1, #)", 0, 100, ARGUMENT);
    }

    private static void rings() {
        String[] ofRing = {"wedge(#, 1, 1)", "gap(#, 0)", "gap(#, 1)", "closes(#)"};
        for (String call : ofRing) {
            range(MADE, call, 0, 1, INDEX);
            range(FULL_OF_EACH, call, 0, 5, INDEX);
        }
        range(MADE + "wedge(1, 1, 1) = 1", "mitre(#, 0, 0)", 0, 1, INDEX);
        range(MADE, "wedge(0, #, 1)", 1, 3600, ARGUMENT);
        range(MADE, "wedge(0, #, 12)", 1, 3600, ARGUMENT);
        range(MADE, "wedge(0, 1, #)", 1, 12, ARGUMENT);
        range(MADE, "wedge(0, 3600, #)", 1, 12, ARGUMENT);
        range(MADE, "mitre(0, #, 0)", 0, 2, INDEX);
        range(MADE, "mitre(0, #, 1)", 0, 2, INDEX);
        range(MADE, "mitre(0, 2, #)", 0, 1, INDEX);
        range(MADE, "gap(0, #)", 0, 1, INDEX);
        range(MADE, "gap(1, #)", 0, 1, INDEX);
        beyond(MADE, "mitre(1, #, 0)", INDEX, -1, 0, 1, 2, 15, 16);
    }

    private static void flutesAndThreads() {
        range("", "flute(#, 0, 0)", 1, 1000, ARGUMENT);
        range("", "flute(1, #, 0)", 0, 0, ARGUMENT);
        range("", "flute(2, #, 0)", 0, 1, ARGUMENT);
        range("", "flute(7, #, 1)", 0, 6, ARGUMENT);
        range("", "flute(1000, #, 0)", 0, 999, ARGUMENT);
        range("", "flute(9, 8, #)", 0, 1, INDEX);
        range("", "thread(#, 1)", 1, 1000, ARGUMENT);
        range("", "thread(#, 1000)", 1, 1000, ARGUMENT);
        range("", "thread(1, #)", 1, 1000, ARGUMENT);
        range("", "thread(1000, #)", 1, 1000, ARGUMENT);
        range(MADE, "threadAt(#, 0)", 0, 100000, ARGUMENT);
        range(MADE, "threadAt(#, 1)", 0, 100000, ARGUMENT);
        range(MADE, "threadAt(5, #)", 0, 1, INDEX);
    }

    private static void rows() {
        range("", "row(#, 5)", 1, 500, ARGUMENT);
        range("", "row(5, #)", 1, 10000, ARGUMENT);
        range(MADE, "row(#, 5)", 21, 500, ARGUMENT);
        range(MADE, "row(21, #)", 1, 10000, ARGUMENT);
        range("row(499, 5) = 1", "row(#, 5)", 500, 500, ARGUMENT);
        beyond("row(500, 5) = 1", "row(#, 5)", ARGUMENT, 0, 1, 499, 500, 501);
    }
}
