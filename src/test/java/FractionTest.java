/** Promises 17 to 24: rings, wedges, mitres, gaps, flutes, threads. */
public final class FractionTest {
    private FractionTest() {
    }

    public static void main(String[] args) {
        ring();
        wedge();
        mitre();
        gapAndCloses();
        flute();
        thread();
        Script.finish();
    }

    private static void ring() {
        Script.run("promise 17", """
            ring() = 0
            ring() = 1
            ring() = 2
            wedge(1, 5, 1) = 1
            ring() = 3
            ring() = 4
            ring() = 5
            ring() = throws.IllegalStateException
            gap(5, 0) = 360
            gap(1, 0) = 355
            gap(6, 0) = throws.IndexOutOfBoundsException
            """);
    }

    private static void wedge() {
        StringBuilder sixteen = new StringBuilder("ring() = 0\n");
        for (int n = 1; n <= 16; n++) {
            sixteen.append("wedge(0, 45, 2) = ").append(n).append('\n');
        }
        Script.run("promise 18: sixteen", sixteen.toString(), """
            closes(0) = true
            wedge(0, 1, 1) = throws.IllegalStateException
            wedge(0, 0, 1) = throws.IllegalArgumentException
            wedge(1, 0, 1) = throws.IndexOutOfBoundsException
            closes(0) = true
            mitre(0, 15, 0) = 45
            mitre(0, 15, 1) = 4
            mitre(0, 16, 0) = throws.IndexOutOfBoundsException
            """);
        Script.run("promise 18: numbers", """
            ring() = 0
            wedge(0, 0, 1) = throws.IllegalArgumentException
            wedge(0, 3601, 1) = throws.IllegalArgumentException
            wedge(0, 1, 0) = throws.IllegalArgumentException
            wedge(0, 1, 13) = throws.IllegalArgumentException
            wedge(0, -1, 1) = throws.IllegalArgumentException
            wedge(0, 1, -1) = throws.IllegalArgumentException
            wedge(1, 1, 1) = throws.IndexOutOfBoundsException
            wedge(-1, 0, 0) = throws.IndexOutOfBoundsException
            wedge(6, 0, 0) = throws.IndexOutOfBoundsException
            gap(0, 0) = 360
            mitre(0, 0, 0) = throws.IndexOutOfBoundsException
            wedge(0, 3600, 12) = 1
            wedge(0, 1, 1) = 2
            gap(0, 0) = 59
            """);
    }

    private static void mitre() {
        Script.run("promise 19", """
            ring() = 0
            wedge(0, 360, 7) = 1
            wedge(0, 3, 12) = 2
            wedge(0, 1, 12) = 3
            wedge(0, 3600, 1) = 4
            mitre(0, 0, 0) = 180
            mitre(0, 0, 1) = 7
            mitre(0, 1, 0) = 1
            mitre(0, 1, 1) = 8
            mitre(0, 2, 0) = 1
            mitre(0, 2, 1) = 24
            mitre(0, 3, 0) = 1800
            mitre(0, 3, 1) = 1
            mitre(0, 4, 0) = throws.IndexOutOfBoundsException
            mitre(0, -1, 0) = throws.IndexOutOfBoundsException
            mitre(0, 16, 0) = throws.IndexOutOfBoundsException
            mitre(0, 0, 2) = throws.IndexOutOfBoundsException
            mitre(0, 0, -1) = throws.IndexOutOfBoundsException
            mitre(1, 0, 0) = throws.IndexOutOfBoundsException
            mitre(-1, 0, 0) = throws.IndexOutOfBoundsException
            """);
    }

    private static void gapAndCloses() {
        Script.run("promises 20, 21", """
            ring() = 0
            gap(0, 0) = 360
            gap(0, 1) = 1
            closes(0) = false
            wedge(0, 1, 11) = 1
            wedge(0, 1, 9) = 2
            wedge(0, 1, 8) = 3
            wedge(0, 1, 7) = 4
            wedge(0, 1, 5) = 5
            gap(0, 0) = 9960631
            gap(0, 1) = 27720
            wedge(0, 3600, 10) = 6
            closes(0) = false
            gap(0, 0) = -18569
            gap(0, 1) = 27720
            gap(0, 2) = throws.IndexOutOfBoundsException
            gap(0, -1) = throws.IndexOutOfBoundsException
            gap(1, 0) = throws.IndexOutOfBoundsException
            gap(-1, 0) = throws.IndexOutOfBoundsException
            closes(1) = throws.IndexOutOfBoundsException
            closes(-1) = throws.IndexOutOfBoundsException
            ring() = 1
            wedge(1, 1080, 3) = 1
            closes(1) = true
            gap(1, 0) = 0
            gap(1, 1) = 1
            closes(0) = false
            wedge(1, 1, 6) = 2
            gap(1, 0) = -1
            gap(1, 1) = 6
            closes(1) = false
            """);
        StringBuilder most = new StringBuilder("ring() = 0\n");
        for (int n = 1; n <= 16; n++) {
            most.append("wedge(0, 3600, 1) = ").append(n).append('\n');
        }
        Script.run("promise 20: the least gap", most.toString(), """
            gap(0, 0) = -57240
            gap(0, 1) = 1
            """);
    }

    private static void flute() {
        Script.run("promise 22: k of 0 .. n - 1", """
            flute(1, 0, 0) = 0
            flute(1, 0, 1) = 1
            flute(1, 1, 0) = throws.IllegalArgumentException
            flute(1, -1, 0) = throws.IllegalArgumentException
            flute(2, 1, 0) = 180
            flute(2, 2, 0) = throws.IllegalArgumentException
            flute(1000, 999, 1) = 25
            flute(1000, 1000, 0) = throws.IllegalArgumentException
            flute(0, -1, 0) = throws.IllegalArgumentException
            flute(1001, 1000, 0) = throws.IllegalArgumentException
            flute(-2147483648, 2147483647, 0) = throws.IllegalArgumentException
            """);
        Script.run("promise 22", """
            flute(7, 3, 0) = 1080
            flute(7, 3, 1) = 7
            flute(12, 5, 0) = 150
            flute(12, 5, 1) = 1
            flute(7, 0, 0) = 0
            flute(7, 0, 1) = 1
            flute(1, 0, 0) = 0
            flute(1000, 999, 0) = 8991
            flute(1000, 999, 1) = 25
            flute(0, 0, 0) = throws.IllegalArgumentException
            flute(1001, 0, 0) = throws.IllegalArgumentException
            flute(-2147483648, 0, 0) = throws.IllegalArgumentException
            flute(7, 7, 0) = throws.IllegalArgumentException
            flute(7, -1, 0) = throws.IllegalArgumentException
            flute(7, 3, 2) = throws.IndexOutOfBoundsException
            flute(7, 3, -1) = throws.IndexOutOfBoundsException
            flute(0, 0, 2) = throws.IndexOutOfBoundsException
            """);
    }

    private static void thread() {
        Script.run("promise 24: there is no PITCH", """
            threadAt(0, 0) = throws.IllegalStateException
            thread(1, 1001) = throws.IllegalArgumentException
            thread(1001, 1) = throws.IllegalArgumentException
            threadAt(0, 0) = throws.IllegalStateException
            thread(1, 1000)
            threadAt(0, 0) = 0
            threadAt(1, 0) = 1
            threadAt(1, 1) = 1000
            threadAt(100000, 0) = 100
            threadAt(100000, 1) = 1
            """);
        Script.run("promise 23: a PITCH in place of the one before", """
            thread(3, 2)
            threadAt(1, 0) = 3
            thread(5, 7)
            threadAt(1, 0) = 5
            threadAt(1, 1) = 7
            """);
        Script.run("promises 23, 24", """
            threadAt(0, 0) = throws.IllegalStateException
            thread(0, 1) = throws.IllegalArgumentException
            thread(1001, 1) = throws.IllegalArgumentException
            thread(1, 0) = throws.IllegalArgumentException
            thread(1, 1001) = throws.IllegalArgumentException
            threadAt(5, 1) = throws.IllegalStateException
            threadAt(-1, 0) = throws.IllegalArgumentException
            threadAt(100001, 0) = throws.IllegalArgumentException
            threadAt(-1, 2) = throws.IndexOutOfBoundsException
            threadAt(1, -1) = throws.IndexOutOfBoundsException
            thread(25, 10)
            threadAt(1, 0) = 5
            threadAt(1, 1) = 2
            threadAt(4, 0) = 10
            threadAt(4, 1) = 1
            threadAt(0, 0) = 0
            threadAt(0, 1) = 1
            threadAt(100001, 0) = throws.IllegalArgumentException
            threadAt(1, 2) = throws.IndexOutOfBoundsException
            thread(7, 0) = throws.IllegalArgumentException
            threadAt(3, 0) = 15
            thread(1000, 1)
            threadAt(100000, 0) = 100000000
            threadAt(100000, 1) = 1
            thread(999, 1000)
            threadAt(99999, 0) = 99899001
            threadAt(99999, 1) = 1000
            thread(1, 1)
            threadAt(3, 0) = 3
            """);
    }
}
