/** Promises 8 to 12: tools, what they reach and leave, rough passes. */
public final class ToolTest {
    /** A groove of one place, 5 deep, in a rod of radius 10. */
    private static final String GROOVE = """
        start(10)
        line(3, 10) = 1
        line(4, 5) = 2
        line(5, 10) = 3
        line(8, 10) = 4
        turn() = 0
        """;

    private ToolTest() {
    }

    public static void main(String[] args) {
        tool();
        reached();
        left();
        passes();
        cut();
        Script.finish();
    }

    private static void tool() {
        Script.run("promise 8", """
            tool(-1) = throws.IllegalArgumentException
            tool(13) = throws.IllegalArgumentException
            tool(0) = 0
            tool(12) = 1
            tool(12) = 2
            tool(1) = 3
            tool(2) = 4
            tool(5) = 5
            tool(5) = throws.IllegalStateException
            tool(13) = throws.IllegalArgumentException
            tool(-1) = throws.IllegalArgumentException
            """);
    }

    private static void reached() {
        Script.run("promises 8, 9: tools by their numbers, of one piece or of another", """
            start(0)
            line(1, 0) = 1
            line(2, 20) = 2
            turn() = 0
            tool(0) = 0
            tool(2) = 1
            tool(2) = 2
            tool(12) = 3
            reached(0, 0, 0) = 0
            reached(0, 1, 0) = 18
            reached(0, 2, 0) = 18
            reached(0, 3, 0) = 19
            start(30)
            line(1, 30) = 1
            line(2, 50) = 2
            turn() = 1
            reached(1, 0, 0) = 30
            reached(1, 1, 0) = 48
            reached(0, 1, 0) = 18
            tool(5) = 4
            tool(1) = 5
            reached(1, 5, 0) = 30
            reached(1, 5, 1) = 31
            reached(1, 5, 2) = 50
            """);
        Script.run("promise 9: a groove", GROOVE, """
            tool(0) = 0
            tool(1) = 1
            tool(2) = 2
            tool(12) = 3
            reached(0, 0, 4) = 5
            reached(0, 1, 4) = 9
            reached(0, 2, 4) = 9
            reached(0, 3, 4) = 9
            reached(0, 3, 0) = 10
            reached(0, 1, 3) = 10
            reached(0, 1, 8) = 10
            reached(0, 0, 9) = throws.IndexOutOfBoundsException
            reached(0, 0, -1) = throws.IndexOutOfBoundsException
            reached(0, 4, 0) = throws.IndexOutOfBoundsException
            reached(0, -1, 0) = throws.IndexOutOfBoundsException
            reached(0, 6, 0) = throws.IndexOutOfBoundsException
            reached(1, 0, 0) = throws.IndexOutOfBoundsException
            reached(-1, 0, 0) = throws.IndexOutOfBoundsException
            reached(6, 0, 0) = throws.IndexOutOfBoundsException
            reached(0, 2147483647, 0) = throws.IndexOutOfBoundsException
            """);
        Script.run("promise 9: at an end only the places of the piece count", """
            start(0)
            line(1, 20) = 1
            turn() = 0
            tool(3) = 0
            reached(0, 0, 0) = 19
            reached(0, 0, 1) = 20
            tool(1) = 1
            reached(0, 1, 0) = 19
            reached(0, 1, 1) = 20
            """);
        Script.run("promise 9: a nose as wide as the piece", """
            start(0)
            line(12, 0) = 1
            line(13, 9) = 2
            turn() = 0
            tool(12) = 0
            reached(0, 0, 0) = 0
            reached(0, 0, 13) = 9
            reached(0, 0, 12) = 7
            """);
        Script.run("promise 9: a nose of 0 is the radius itself", """
            start(0)
            line(2, 1) = 1
            turn() = 0
            tool(0) = 0
            reached(0, 0, 0) = 0
            reached(0, 0, 1) = 0
            reached(0, 0, 2) = 1
            """);
    }

    private static void left() {
        Script.run("promise 10", GROOVE, """
            tool(0) = 0
            tool(1) = 1
            left(0, 0) = 0
            left(0, 1) = 1
            left(0, 2) = throws.IndexOutOfBoundsException
            left(0, -1) = throws.IndexOutOfBoundsException
            left(1, 0) = throws.IndexOutOfBoundsException
            left(-1, 0) = throws.IndexOutOfBoundsException
            start(10)
            line(3, 10) = 1
            line(4, 4) = 2
            line(7, 4) = 3
            line(8, 10) = 4
            turn() = 1
            left(1, 0) = 0
            left(1, 1) = 2
            left(0, 1) = 1
            start(7)
            line(64, 7) = 1
            turn() = 2
            tool(12) = 2
            left(2, 2) = 0
            """);
        Script.run("promise 10: the ends count", """
            start(0)
            line(1, 20) = 1
            line(2, 20) = 2
            line(3, 0) = 3
            turn() = 0
            tool(1) = 0
            left(0, 0) = 2
            """);
    }

    private static void passes() {
        Script.run("promise 11", GROOVE, """
            tool(0) = 0
            tool(1) = 1
            passes(0, 0, 1, 0) = 8
            passes(0, 0, 4, 0) = 2
            passes(0, 0, 5, 0) = 2
            passes(0, 0, 7, 0) = 2
            passes(0, 0, 8, 0) = 1
            passes(0, 0, 100, 0) = 1
            passes(0, 1, 1, 0) = 4
            passes(0, 0, 1, 7) = 1
            passes(0, 0, 1, 8) = 0
            passes(0, 0, 1, 9) = 0
            passes(0, 0, 1, 50) = 0
            passes(0, 0, 0, 0) = throws.IllegalArgumentException
            passes(0, 0, 101, 0) = throws.IllegalArgumentException
            passes(0, 0, 1, -1) = throws.IllegalArgumentException
            passes(0, 0, 1, 51) = throws.IllegalArgumentException
            passes(1, 0, 0, 0) = throws.IndexOutOfBoundsException
            passes(-1, 0, 1, 0) = throws.IndexOutOfBoundsException
            passes(0, 2, 0, 51) = throws.IndexOutOfBoundsException
            passes(0, -1, 1, 0) = throws.IndexOutOfBoundsException
            """);
        Script.run("promise 11: the ends count", """
            tool(0) = 0
            start(2)
            line(3, 9) = 1
            turn() = 0
            passes(0, 0, 1, 0) = 10
            start(9)
            line(3, 2) = 1
            turn() = 1
            passes(1, 0, 1, 0) = 10
            """);
    }

    private static void cut() {
        Script.run("promise 12: k is below 1", GROOVE, """
            tool(0) = 0
            cut(0, 0, 1, 0, 1) = 9
            cut(0, 0, 1, 0, 0) = throws.IllegalArgumentException
            cut(0, 0, 1, 0, -1) = throws.IllegalArgumentException
            cut(0, 0, 100, 50, 0) = throws.IllegalArgumentException
            """);
        Script.run("promise 12: (k - 1) * depth does not wrap around", GROOVE, """
            tool(0) = 0
            cut(0, 0, 100, 0, 2147483647) = 0
            cut(0, 0, 99, 0, 2147483647) = 0
            cut(0, 0, 2, 0, 1073741826) = 0
            cut(0, 0, 3, 0, 715827884) = 0
            cut(0, 0, 64, 0, 67108865) = 0
            cut(0, 0, 32, 0, 100663297) = 0
            """);
        Script.run("promise 12", GROOVE, """
            tool(0) = 0
            tool(1) = 1
            cut(0, 0, 1, 0, 1) = 9
            cut(0, 0, 1, 0, 3) = 9
            cut(0, 0, 1, 0, 4) = 1
            cut(0, 0, 1, 0, 8) = 1
            cut(0, 0, 1, 0, 9) = 0
            cut(0, 1, 1, 0, 4) = 1
            cut(0, 1, 1, 0, 5) = 0
            cut(0, 0, 1, 3, 1) = 1
            cut(0, 0, 1, 8, 1) = 0
            cut(0, 0, 1, 50, 1) = 0
            cut(0, 0, 100, 0, 1) = 9
            cut(0, 0, 100, 0, 2) = 0
            cut(0, 0, 100, 0, 2147483647) = 0
            cut(0, 0, 2, 0, 1073741825) = 0
            cut(0, 0, 4, 0, 2147483647) = 0
            cut(0, 0, 1, 0, 0) = throws.IllegalArgumentException
            cut(0, 0, 1, 0, -2147483648) = throws.IllegalArgumentException
            cut(0, 0, 0, 0, 1) = throws.IllegalArgumentException
            cut(0, 0, 101, 0, 1) = throws.IllegalArgumentException
            cut(0, 0, 1, -1, 1) = throws.IllegalArgumentException
            cut(0, 0, 1, 51, 1) = throws.IllegalArgumentException
            cut(1, 0, 0, 0, 0) = throws.IndexOutOfBoundsException
            cut(-1, 0, 1, 0, 1) = throws.IndexOutOfBoundsException
            cut(0, 2, 1, 0, 0) = throws.IndexOutOfBoundsException
            cut(0, -1, 1, 0, 1) = throws.IndexOutOfBoundsException
            """);
    }
}
