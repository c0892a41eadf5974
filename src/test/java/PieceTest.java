/** Promises 13 to 16: steadies, volumes, hollows, copies. */
public final class PieceTest {
    private PieceTest() {
    }

    public static void main(String[] args) {
        steady();
        volume();
        hollow();
        copy();
        Script.finish();
    }

    private static void steady() {
        Script.run("promise 13: there are not so many", """
            start(0)
            line(3, 0) = 1
            turn() = 0
            steady(0, 1, 1) = 2
            steady(0, 1, 2) = throws.IllegalStateException
            steady(0, 1, 3) = throws.IllegalStateException
            steady(0, 1, 64) = throws.IllegalStateException
            steady(0, 1, 2147483647) = throws.IllegalStateException
            """);
        Script.run("promise 13: an even rod", """
            start(12)
            line(10, 12) = 1
            turn() = 0
            steady(0, 4, 0) = 3
            steady(0, 4, 1) = 6
            steady(0, 4, 2) = 9
            steady(0, 4, 3) = throws.IllegalStateException
            steady(0, 4, 2147483647) = throws.IllegalStateException
            steady(0, 1, 0) = throws.IllegalStateException
            steady(0, 2, 0) = 6
            steady(0, 2, 1) = throws.IllegalStateException
            steady(0, 12, 8) = 9
            steady(0, 12, 9) = throws.IllegalStateException
            steady(0, 500, 8) = 9
            steady(0, 500, 9) = throws.IllegalStateException
            steady(0, 0, 0) = throws.IllegalArgumentException
            steady(0, 501, 0) = throws.IllegalArgumentException
            steady(0, 1, -1) = throws.IllegalArgumentException
            steady(0, 501, 2147483647) = throws.IllegalArgumentException
            steady(1, 0, -1) = throws.IndexOutOfBoundsException
            steady(-1, 1, 0) = throws.IndexOutOfBoundsException
            """);
        Script.run("promise 13: thin wood holds at each place, the last held place counts", """
            start(20)
            line(4, 20) = 1
            line(5, 0) = 2
            line(6, 20) = 3
            line(20, 20) = 4
            turn() = 0
            steady(0, 5, 0) = 4
            steady(0, 5, 1) = 5
            steady(0, 5, 2) = 6
            steady(0, 5, 3) = 10
            steady(0, 5, 4) = 14
            steady(0, 5, 5) = 18
            steady(0, 5, 6) = throws.IllegalStateException
            """);
        Script.run("promise 13: a held place of no radius", """
            start(0)
            line(3, 300) = 1
            turn() = 0
            steady(0, 1, 0) = 1
            steady(0, 1, 1) = throws.IllegalStateException
            start(1)
            line(1, 1) = 1
            turn() = 1
            steady(1, 500, 0) = throws.IllegalStateException
            """);
    }

    private static void volume() {
        Script.run("promise 14", """
            start(10)
            line(1, 10) = 1
            turn() = 0
            volume(0, false) = 314
            volume(0, true) = 315
            start(3)
            line(2, 7) = 1
            line(3, 1) = 2
            turn() = 1
            volume(1, false) = 109
            volume(1, true) = 387
            start(0)
            line(5, 0) = 1
            turn() = 2
            volume(2, false) = 0
            volume(2, true) = 1
            start(500)
            line(64, 500) = 1
            turn() = 3
            volume(3, false) = 50265440
            volume(3, true) = 50265601
            volume(4, false) = throws.IndexOutOfBoundsException
            volume(-1, true) = throws.IndexOutOfBoundsException
            """);
    }

    private static void hollow() {
        Script.run("promise 15", """
            start(30)
            line(4, 30) = 1
            line(5, 10) = 2
            line(9, 50) = 3
            turn() = 0
            hollow(0, 1, 0) = 10
            hollow(0, 10, 0) = 10
            hollow(0, 10, 1) = 4
            hollow(0, 11, 0) = 4
            hollow(0, 15, 5) = 4
            hollow(0, 16, 5) = 3
            hollow(0, 50, 0) = 1
            hollow(0, 50, 1) = 0
            hollow(0, 100, 100) = 0
            hollow(0, 0, 0) = throws.IllegalArgumentException
            hollow(0, 101, 0) = throws.IllegalArgumentException
            hollow(0, 1, -1) = throws.IllegalArgumentException
            hollow(0, 1, 101) = throws.IllegalArgumentException
            hollow(1, 0, 101) = throws.IndexOutOfBoundsException
            hollow(-1, 1, 0) = throws.IndexOutOfBoundsException
            start(200)
            line(2, 200) = 1
            turn() = 1
            hollow(1, 100, 100) = 3
            start(0)
            line(2, 0) = 1
            turn() = 2
            hollow(2, 1, 0) = 0
            """);
    }

    private static void copy() {
        Script.run("promise 16: at places that both have", """
            start(0)
            line(2, 0) = 1
            turn() = 0
            line(3, 500) = 2
            turn() = 1
            start(0)
            line(1, 0) = 1
            line(2, 4) = 2
            turn() = 2
            start(0)
            line(2, 500) = 1
            turn() = 3
            copy(0, 1) = 0
            copy(1, 0) = 0
            copy(0, 2) = 4
            copy(2, 1) = 4
            copy(0, 3) = 500
            copy(3, 1) = 500
            copy(3, 3) = 0
            """);
        Script.run("promise 16", """
            start(10)
            line(4, 10) = 1
            turn() = 0
            line(8, 90) = 2
            turn() = 1
            start(13)
            line(4, 5) = 1
            turn() = 2
            start(500)
            line(1, 0) = 1
            turn() = 3
            copy(0, 0) = 0
            copy(0, 1) = 0
            copy(1, 0) = 0
            copy(0, 2) = 5
            copy(2, 1) = 5
            copy(1, 2) = 5
            copy(3, 1) = 490
            copy(1, 3) = 490
            copy(0, 4) = throws.IndexOutOfBoundsException
            copy(4, 0) = throws.IndexOutOfBoundsException
            copy(0, -1) = throws.IndexOutOfBoundsException
            copy(-1, 0) = throws.IndexOutOfBoundsException
            """);
    }
}
