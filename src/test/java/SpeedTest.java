/** Promises 25 and 26: speeds by rows. */
public final class SpeedTest {
    private SpeedTest() {
    }

    public static void main(String[] args) {
        row();
        speed();
        Script.finish();
    }

    private static void row() {
        Script.run("promise 25: not above the one before, which is the last one that was taken", """
            row(10, 5) = 1
            row(10, 6) = throws.IllegalArgumentException
            row(9, 6) = throws.IllegalArgumentException
            row(400, 0) = throws.IllegalArgumentException
            row(11, 6) = 2
            row(11, 6) = throws.IllegalArgumentException
            row(10, 6) = throws.IllegalArgumentException
            row(12, 6) = 3
            """);
        Script.run("promise 25", """
            row(0, 5) = throws.IllegalArgumentException
            row(501, 5) = throws.IllegalArgumentException
            row(5, 0) = throws.IllegalArgumentException
            row(5, 10001) = throws.IllegalArgumentException
            row(1, 10000) = 1
            row(1, 5) = throws.IllegalArgumentException
            row(2, 0) = throws.IllegalArgumentException
            row(2, 1) = 2
            row(1, 5) = throws.IllegalArgumentException
            row(10, 20) = 3
            row(20, 20) = 4
            row(30, 20) = 5
            row(40, 20) = 6
            row(50, 20) = 7
            row(60, 20) = 8
            row(70, 20) = throws.IllegalStateException
            row(60, 20) = throws.IllegalArgumentException
            row(70, 0) = throws.IllegalArgumentException
            row(501, 20) = throws.IllegalArgumentException
            """);
        Script.run("promise 25: nothing is above 500", """
            row(500, 1) = 1
            row(500, 1) = throws.IllegalArgumentException
            row(501, 1) = throws.IllegalArgumentException
            """);
    }

    private static void speed() {
        Script.run("promise 26: the first row whose radius is not below it, else the last one", """
            start(9)
            line(1, 10) = 1
            line(2, 11) = 2
            line(3, 500) = 3
            line(4, 0) = 4
            turn() = 0
            row(10, 700) = 1
            speed(0, 0) = 700
            speed(0, 1) = 700
            speed(0, 2) = 700
            speed(0, 3) = 700
            row(11, 900) = 2
            speed(0, 1) = 700
            speed(0, 2) = 900
            speed(0, 3) = 900
            row(499, 20) = 3
            speed(0, 2) = 900
            speed(0, 3) = 20
            row(500, 1) = 4
            speed(0, 3) = 1
            speed(0, 4) = 700
            """);
        Script.run("promise 26: there are no rows", """
            start(9)
            line(1, 10) = 1
            turn() = 0
            speed(0, 0) = throws.IllegalStateException
            row(0, 1) = throws.IllegalArgumentException
            speed(0, 1) = throws.IllegalStateException
            speed(0, 2) = throws.IndexOutOfBoundsException
            row(1, 1) = 1
            speed(0, 1) = 1
            """);
        Script.run("promise 26", """
            start(0)
            line(40, 40) = 1
            turn() = 0
            speed(0, 0) = throws.IllegalStateException
            speed(0, 41) = throws.IndexOutOfBoundsException
            speed(0, -1) = throws.IndexOutOfBoundsException
            speed(1, 0) = throws.IndexOutOfBoundsException
            row(10, 3000) = 1
            speed(0, 40) = 3000
            row(20, 2000) = 2
            row(30, 2500) = 3
            speed(0, 0) = 3000
            speed(0, 10) = 3000
            speed(0, 11) = 2000
            speed(0, 20) = 2000
            speed(0, 21) = 2500
            speed(0, 30) = 2500
            speed(0, 31) = 2500
            speed(0, 40) = 2500
            speed(0, 41) = throws.IndexOutOfBoundsException
            speed(0, -1) = throws.IndexOutOfBoundsException
            speed(1, 0) = throws.IndexOutOfBoundsException
            speed(-1, 0) = throws.IndexOutOfBoundsException
            row(30, 1) = throws.IllegalArgumentException
            speed(0, 40) = 2500
            """);
        Script.run("promise 26: eight rows, all of them below", """
            start(8)
            line(1, 9) = 1
            turn() = 0
            row(1, 11) = 1
            row(2, 12) = 2
            row(3, 13) = 3
            row(4, 14) = 4
            row(5, 15) = 5
            row(6, 16) = 6
            row(7, 17) = 7
            row(8, 18) = 8
            speed(0, 0) = 18
            speed(0, 1) = 18
            """);
    }
}
