/** Promises 1 to 7: new objects, profiles, pieces. */
public final class ProfileTest {
    private ProfileTest() {
    }

    public static void main(String[] args) {
        newObject();
        firstCalls();
        start();
        line();
        lineFloors();
        arc();
        arcEnds();
        arcCutOff();
        arcThrows();
        turn();
        radiusAndAbout();
        Script.finish();
    }

    private static void newObject() {
        Script.run("promise 1: nothing is there", """
            turn() = throws.IllegalStateException
            line(1, 1) = throws.IllegalStateException
            arc(1, 1, 0, 0, true) = throws.IllegalStateException
            radius(0, 0) = throws.IndexOutOfBoundsException
            about(0, 0) = throws.IndexOutOfBoundsException
            reached(0, 0, 0) = throws.IndexOutOfBoundsException
            left(0, 0) = throws.IndexOutOfBoundsException
            passes(0, 0, 1, 0) = throws.IndexOutOfBoundsException
            cut(0, 0, 1, 0, 1) = throws.IndexOutOfBoundsException
            steady(0, 1, 0) = throws.IndexOutOfBoundsException
            volume(0, true) = throws.IndexOutOfBoundsException
            hollow(0, 1, 0) = throws.IndexOutOfBoundsException
            copy(0, 0) = throws.IndexOutOfBoundsException
            wedge(0, 1, 1) = throws.IndexOutOfBoundsException
            mitre(0, 0, 0) = throws.IndexOutOfBoundsException
            gap(0, 0) = throws.IndexOutOfBoundsException
            closes(0) = throws.IndexOutOfBoundsException
            threadAt(1, 0) = throws.IllegalStateException
            speed(0, 0) = throws.IndexOutOfBoundsException
            """);
        Script.run("promise 1: objects are apart", """
            tool(3) = 0
            ring() = 0
            start(9)
            line(1, 9) = 1
            turn() = 0
            row(5, 5) = 1
            """);
        Script.run("promise 1: a second object is new too", """
            tool(3) = 0
            ring() = 0
            turn() = throws.IllegalStateException
            row(5, 5) = 1
            """);
    }

    /** Each call as the very first one. */
    private static void firstCalls() {
        String[] calls = {
            "start(0)", "start(500)", "tool(0) = 0", "tool(12) = 0", "ring() = 0", "row(1, 1) = 1",
            "row(500, 10000) = 1", "thread(1, 1)", "thread(1000, 1000)", "flute(1, 0, 0) = 0",
            "flute(4, 3, 0) = 270", "line(1, 0) = throws.IllegalStateException",
            "line(64, 500) = throws.IllegalStateException", "arc(1, 0, 0, 0, true) = throws.IllegalStateException",
            "arc(64, 500, 32, 500, false) = throws.IllegalStateException", "turn() = throws.IllegalStateException",
            "threadAt(0, 0) = throws.IllegalStateException", "threadAt(100000, 1) = throws.IllegalStateException",
        };
        for (String call : calls) {
            Script.run("promise 1: as the first call", call);
        }
        String[] ofNothing = {
            "radius(#, 0)", "about(#, 0)", "about(#, 2)", "reached(#, 0, 0)", "left(#, 0)", "passes(#, 0, 1, 0)",
            "cut(#, 0, 1, 0, 1)", "steady(#, 1, 0)", "volume(#, true)", "volume(#, false)", "hollow(#, 1, 0)",
            "copy(#, #)", "speed(#, 0)", "wedge(#, 1, 1)", "mitre(#, 0, 0)", "gap(#, 0)", "closes(#)",
        };
        for (String call : ofNothing) {
            for (String number : new String[] {"-1", "0", "5", "6"}) {
                Script.run("promise 1: there is none", call.replace("#", number) + " = throws.IndexOutOfBoundsException");
            }
        }
        Script.run("promise 1: a tool alone reaches nothing, a piece alone has no tool", """
            tool(3) = 0
            reached(0, 0, 0) = throws.IndexOutOfBoundsException
            left(0, 0) = throws.IndexOutOfBoundsException
            start(5)
            line(3, 5) = 1
            reached(0, 0, 0) = throws.IndexOutOfBoundsException
            turn() = 0
            reached(0, 0, 0) = 5
            reached(0, 1, 0) = throws.IndexOutOfBoundsException
            """);
    }

    private static void start() {
        Script.run("promise 2: in place of the one before", """
            start(5)
            line(8, 30) = 1
            line(9, 31) = 2
            start(6)
            turn() = throws.IllegalStateException
            line(2, 8) = 1
            turn() = 0
            about(0, 0) = 2
            about(0, 1) = 11
            about(0, 2) = 1
            radius(0, 0) = 6
            radius(0, 1) = 7
            radius(0, 3) = throws.IndexOutOfBoundsException
            """);
        Script.run("promise 2: a PROFILE begun twice has no way of the first", """
            start(5)
            start(9)
            line(1, 9) = 1
            turn() = 0
            radius(0, 0) = 9
            """);
        Script.run("promise 2", """
            start(-1) = throws.IllegalArgumentException
            start(501) = throws.IllegalArgumentException
            start(-2147483648) = throws.IllegalArgumentException
            line(1, 1) = throws.IllegalStateException
            start(0)
            turn() = throws.IllegalStateException
            line(2, 6) = 1
            turn() = 0
            radius(0, 0) = 0
            start(500)
            turn() = throws.IllegalStateException
            line(1, 500) = 1
            turn() = 1
            radius(1, 0) = 500
            about(1, 0) = 1
            about(0, 0) = 2
            radius(0, 1) = 3
            """);
        Script.run("promise 2: a start that throws leaves the profile", """
            start(7)
            line(3, 10) = 1
            start(501) = throws.IllegalArgumentException
            line(4, 11) = 2
            turn() = 0
            radius(0, 0) = 7
            radius(0, 1) = 8
            radius(0, 4) = 11
            """);
    }

    private static void line() {
        Script.run("promise 3: order of the exceptions without a profile", """
            line(1, 0) = throws.IllegalStateException
            line(64, 500) = throws.IllegalStateException
            line(0, 5) = throws.IllegalArgumentException
            line(-5, 5) = throws.IllegalArgumentException
            line(65, 5) = throws.IllegalArgumentException
            line(5, -1) = throws.IllegalArgumentException
            line(5, 501) = throws.IllegalArgumentException
            """);
        Script.run("promise 3: at is not behind the last place, once a PROFILE was begun", """
            start(10)
            line(9, 10) = 1
            line(9, 10) = throws.IllegalArgumentException
            line(8, 10) = throws.IllegalArgumentException
            line(1, 10) = throws.IllegalArgumentException
            line(10, 10) = 2
            """);
        Script.run("promise 3: numbers, and nothing changes", """
            start(10)
            line(0, 5) = throws.IllegalArgumentException
            line(5, 501) = throws.IllegalArgumentException
            line(5, -1) = throws.IllegalArgumentException
            line(65, 5) = throws.IllegalArgumentException
            line(5, 0) = 1
            line(5, 0) = throws.IllegalArgumentException
            line(4, 0) = throws.IllegalArgumentException
            line(6, 500) = 2
            line(64, 0) = 3
            line(64, 0) = throws.IllegalArgumentException
            turn() = 0
            about(0, 0) = 64
            about(0, 2) = 3
            radius(0, 0) = 10
            radius(0, 5) = 0
            radius(0, 6) = 500
            radius(0, 64) = 0
            start(3)
            line(1, 3) = 1
            """);
        StringBuilder most = new StringBuilder("start(1)\n");
        for (int x = 1; x <= 64; x++) {
            most.append("line(").append(x).append(", ").append(x).append(") = ").append(x).append('\n');
        }
        Script.run("promise 3: 64 ways", most.toString(), """
            line(64, 1) = throws.IllegalArgumentException
            turn() = 0
            about(0, 2) = 64
            radius(0, 63) = 63
            radius(0, 64) = 64
            """);
    }

    private static void lineFloors() {
        Script.run("promise 3: FLOOR goes down, not to 0", """
            start(10)
            line(3, 9) = 1
            line(6, 10) = 2
            line(10, 3) = 3
            turn() = 0
            radius(0, 1) = 9
            radius(0, 2) = 9
            radius(0, 3) = 9
            radius(0, 4) = 9
            radius(0, 5) = 9
            radius(0, 6) = 10
            radius(0, 7) = 8
            radius(0, 8) = 6
            radius(0, 9) = 4
            radius(0, 10) = 3
            """);
    }

    private static void arc() {
        Script.run("promise 4: upper and lower arcs", """
            start(0)
            arc(10, 0, 5, 0, true) = true
            turn() = 0
            radius(0, 0) = 0
            radius(0, 1) = 3
            radius(0, 2) = 4
            radius(0, 5) = 5
            radius(0, 8) = 4
            radius(0, 9) = 3
            radius(0, 10) = 0
            about(0, 2) = 1
            start(20)
            arc(8, 20, 4, 23, false) = true
            line(9, 30) = 2
            turn() = 1
            radius(1, 0) = 20
            radius(1, 1) = 19
            radius(1, 2) = 19
            radius(1, 4) = 18
            radius(1, 8) = 20
            radius(1, 9) = 30
            about(1, 2) = 2
            """);
        Script.run("promise 4: an arc behind a line begins where that ends", """
            start(1)
            line(2, 12) = 1
            arc(7, 13, 7, 0, true) = true
            arc(12, 12, 7, 0, true) = true
            turn() = 0
            about(0, 2) = 3
            radius(0, 2) = 12
            radius(0, 3) = 12
            radius(0, 7) = 13
            radius(0, 11) = 12
            radius(0, 12) = 12
            """);
        Script.run("promise 4: the farthest centres", """
            start(500)
            arc(64, 500, 32, -1000, true) = true
            turn() = 0
            radius(0, 32) = 500
            radius(0, 64) = 500
            start(0)
            arc(64, 0, 32, 1500, false) = true
            turn() = 1
            radius(1, 32) = 0
            start(100)
            arc(1, 100, -200, 50, true) = false
            arc(1, 100, 300, 50, true) = false
            """);
        Script.run("promise 4: the root of a great square", """
            start(490)
            arc(20, 490, 10, -1000, true) = true
            turn() = 0
            radius(0, 1) = 490
            radius(0, 10) = 490
            start(10)
            arc(60, 10, 30, 1500, false) = true
            turn() = 1
            radius(1, 30) = 10
            start(300)
            arc(64, 300, 32, 295, true) = true
            turn() = 2
            radius(2, 32) = 327
            radius(2, 1) = 304
            radius(2, 0) = 300
            """);
    }

    private static void arcEnds() {
        Script.run("promise 4: ends that do not fit change nothing", """
            start(12)
            arc(10, 11, 5, 0, true) = false
            arc(10, 12, 4, 0, true) = false
            arc(10, 12, 5, 0, false) = false
            arc(10, 12, 5, 13, true) = false
            turn() = throws.IllegalStateException
            arc(10, 12, 5, 12, true) = true
            turn() = 0
            radius(0, 5) = 17
            start(12)
            arc(10, 12, 5, 12, false) = true
            turn() = 1
            radius(1, 5) = 7
            """);
        Script.run("promise 4: both ends must be on the side", """
            start(8)
            arc(10, 2, 5, 5, true) = false
            arc(10, 2, 5, 5, false) = false
            line(1, 2) = 1
            arc(11, 8, 6, 5, true) = false
            arc(11, 8, 6, 5, false) = false
            line(2, 2) = 2
            """);
    }

    private static void arcCutOff() {
        Script.run("promise 4: not below 0, not above 500", """
            start(0)
            arc(10, 0, 5, 0, false) = true
            turn() = 0
            radius(0, 5) = 0
            about(0, 1) = 3
            start(500)
            arc(10, 500, 5, 499, true) = true
            turn() = 1
            radius(1, 5) = 500
            about(1, 1) = 503
            start(3)
            arc(20, 3, 10, 3, false) = true
            turn() = 2
            radius(2, 0) = 3
            radius(2, 1) = 0
            radius(2, 20) = 3
            """);
    }

    private static void arcThrows() {
        Script.run("promise 4: numbers before the profile", """
            arc(1, 1, 0, 0, true) = throws.IllegalStateException
            arc(0, 1, 0, 0, true) = throws.IllegalArgumentException
            arc(65, 1, 0, 0, true) = throws.IllegalArgumentException
            arc(1, -1, 0, 0, true) = throws.IllegalArgumentException
            arc(1, 501, 0, 0, true) = throws.IllegalArgumentException
            arc(1, 1, -201, 0, true) = throws.IllegalArgumentException
            arc(1, 1, 301, 0, true) = throws.IllegalArgumentException
            arc(1, 1, 0, -1001, true) = throws.IllegalArgumentException
            arc(1, 1, 0, 1501, true) = throws.IllegalArgumentException
            arc(64, 500, -200, -1000, true) = throws.IllegalStateException
            arc(64, 500, 300, 1500, true) = throws.IllegalStateException
            start(5)
            arc(2, 5, 1, 5, true) = true
            arc(2, 5, 1, 5, true) = throws.IllegalArgumentException
            arc(1, 5, 1, 5, true) = throws.IllegalArgumentException
            arc(4, 5, 301, 5, true) = throws.IllegalArgumentException
            arc(4, 5, -201, 5, true) = throws.IllegalArgumentException
            arc(4, 5, 3, 1501, false) = throws.IllegalArgumentException
            arc(4, 5, 3, -1001, true) = throws.IllegalArgumentException
            arc(65, 5, 3, 5, true) = throws.IllegalArgumentException
            arc(4, 501, 3, 5, true) = throws.IllegalArgumentException
            arc(4, 5, 3, 5, false) = true
            turn() = 0
            about(0, 0) = 4
            about(0, 2) = 2
            radius(0, 1) = 6
            radius(0, 3) = 4
            """);
    }

    private static void turn() {
        Script.run("promise 5: there are 6", """
            start(5)
            line(1, 6) = 1
            turn() = 0
            turn() = 1
            turn() = 2
            turn() = 3
            turn() = 4
            turn() = 5
            turn() = throws.IllegalStateException
            turn() = throws.IllegalStateException
            about(5, 0) = 1
            about(6, 0) = throws.IndexOutOfBoundsException
            start(8)
            turn() = throws.IllegalStateException
            line(2, 8) = 1
            turn() = throws.IllegalStateException
            """);
        Script.run("promise 5: the PROFILE has no WAY", """
            turn() = throws.IllegalStateException
            start(5)
            turn() = throws.IllegalStateException
            arc(4, 6, 2, 5, true) = false
            turn() = throws.IllegalStateException
            line(65, 5) = throws.IllegalArgumentException
            turn() = throws.IllegalStateException
            arc(4, 5, 2, 5, true) = true
            turn() = 0
            start(5)
            turn() = throws.IllegalStateException
            about(1, 0) = throws.IndexOutOfBoundsException
            """);
        Script.run("promise 5: six pieces, the profile goes on", """
            turn() = throws.IllegalStateException
            start(5)
            turn() = throws.IllegalStateException
            line(1, 6) = 1
            turn() = 0
            turn() = 1
            line(2, 9) = 2
            turn() = 2
            about(0, 0) = 1
            about(0, 2) = 1
            about(2, 0) = 2
            about(2, 2) = 2
            radius(2, 1) = 6
            start(1)
            turn() = throws.IllegalStateException
            line(4, 1) = 1
            turn() = 3
            turn() = 4
            turn() = 5
            turn() = throws.IllegalStateException
            radius(6, 0) = throws.IndexOutOfBoundsException
            radius(0, 0) = 5
            radius(2, 2) = 9
            line(5, 400) = 2
            turn() = throws.IllegalStateException
            about(5, 0) = 4
            about(5, 1) = 4
            """);
    }

    private static void radiusAndAbout() {
        Script.run("promises 6, 7", """
            start(5)
            line(3, 8) = 1
            line(5, 1) = 2
            turn() = 0
            radius(0, 0) = 5
            radius(0, 1) = 6
            radius(0, 4) = 4
            radius(0, 5) = 1
            radius(0, 6) = throws.IndexOutOfBoundsException
            radius(0, -1) = throws.IndexOutOfBoundsException
            radius(0, 2147483647) = throws.IndexOutOfBoundsException
            radius(1, 0) = throws.IndexOutOfBoundsException
            radius(-1, 0) = throws.IndexOutOfBoundsException
            radius(6, 0) = throws.IndexOutOfBoundsException
            radius(2147483647, 0) = throws.IndexOutOfBoundsException
            radius(-2147483648, 0) = throws.IndexOutOfBoundsException
            about(0, 0) = 5
            about(0, 1) = 11
            about(0, 2) = 2
            about(0, 3) = throws.IndexOutOfBoundsException
            about(0, -1) = throws.IndexOutOfBoundsException
            about(1, 0) = throws.IndexOutOfBoundsException
            about(-1, 0) = throws.IndexOutOfBoundsException
            """);
        Script.run("promise 7: the greatest radius may be at either end", """
            start(40)
            line(3, 8) = 1
            turn() = 0
            about(0, 1) = 43
            line(4, 90) = 2
            turn() = 1
            about(1, 1) = 93
            """);
    }
}
