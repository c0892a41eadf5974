/** The document's "Terms": each sentence that names an edge, by its own words. */
public final class TermsTest {
    private TermsTest() {
    }

    public static void main(String[] args) {
        places();
        radii();
        lines();
        arcDistances();
        arcSides();
        arcRoots();
        arcBounds();
        pieces();
        blanks();
        noseHeights();
        noseAtEnds();
        leftPlaces();
        roughBlank();
        roughPasses();
        steadyReach();
        steadyOneOn();
        steadyBeforeLength();
        volumes();
        hollows();
        wedges();
        fractions();
        Script.finish();
    }

    private static void places() {
        Script.run("begins at place 0", """
            start(17)
            line(2, 21) = 1
            turn() = 0
            radius(0, -1) = throws.IndexOutOfBoundsException
            radius(0, 0) = 17
            radius(0, 2) = 21
            radius(0, 3) = throws.IndexOutOfBoundsException
            """);
        Script.run("each to a place behind the last one", """
            start(5)
            line(0, 5) = throws.IllegalArgumentException
            arc(0, 5, 0, 5, true) = throws.IllegalArgumentException
            line(1, 5) = 1
            line(1, 5) = throws.IllegalArgumentException
            arc(1, 5, 1, 5, true) = throws.IllegalArgumentException
            arc(3, 5, 2, 5, true) = true
            line(3, 5) = throws.IllegalArgumentException
            arc(3, 5, 3, 5, true) = throws.IllegalArgumentException
            line(2, 5) = throws.IllegalArgumentException
            arc(2, 5, 2, 5, true) = throws.IllegalArgumentException
            line(4, 5) = 3
            """);
        Script.run("behind the last one: counted anew from a new beginning", """
            start(5)
            line(40, 5) = 1
            start(6)
            line(1, 6) = 1
            """);
        Script.run("up to 64: a line", """
            start(5)
            line(63, 5) = 1
            line(65, 5) = throws.IllegalArgumentException
            line(64, 5) = 2
            line(65, 5) = throws.IllegalArgumentException
            turn() = 0
            about(0, 0) = 64
            radius(0, 64) = 5
            radius(0, 65) = throws.IndexOutOfBoundsException
            """);
        Script.run("up to 64: an arc", """
            start(5)
            line(62, 5) = 1
            arc(65, 5, 63, 5, true) = throws.IllegalArgumentException
            arc(64, 5, 63, 5, true) = true
            arc(65, 5, 64, 5, true) = throws.IllegalArgumentException
            turn() = 0
            about(0, 0) = 64
            radius(0, 63) = 6
            """);
    }

    private static void radii() {
        Script.run("radii are 0 .. 500: 0", """
            start(-1) = throws.IllegalArgumentException
            start(0)
            line(1, -1) = throws.IllegalArgumentException
            line(1, 0) = 1
            arc(3, -1, 2, 0, true) = throws.IllegalArgumentException
            arc(3, 0, 2, 0, true) = true
            turn() = 0
            radius(0, 0) = 0
            radius(0, 1) = 0
            radius(0, 3) = 0
            """);
        Script.run("radii are 0 .. 500: 500", """
            start(501) = throws.IllegalArgumentException
            start(500)
            line(1, 501) = throws.IllegalArgumentException
            line(1, 500) = 1
            arc(3, 501, 2, 500, false) = throws.IllegalArgumentException
            arc(3, 500, 2, 500, false) = true
            turn() = 0
            radius(0, 0) = 500
            radius(0, 1) = 500
            radius(0, 2) = 499
            radius(0, 3) = 500
            """);
    }

    private static void lines() {
        Script.run("FLOOR of a rising LINE", """
            start(0)
            line(3, 1) = 1
            line(6, 501) = throws.IllegalArgumentException
            line(6, 500) = 2
            turn() = 0
            radius(0, 1) = 0
            radius(0, 2) = 0
            radius(0, 3) = 1
            radius(0, 4) = 167
            radius(0, 5) = 333
            radius(0, 6) = 500
            """);
        Script.run("FLOOR of a falling LINE", """
            start(1)
            line(3, 0) = 1
            line(4, 500) = 2
            line(7, 0) = 3
            turn() = 0
            radius(0, 0) = 1
            radius(0, 1) = 0
            radius(0, 2) = 0
            radius(0, 3) = 0
            radius(0, 4) = 500
            radius(0, 5) = 333
            radius(0, 6) = 166
            radius(0, 7) = 0
            """);
        Script.run("FLOOR of a falling LINE: whole steps stay whole", """
            start(12)
            line(4, 0) = 1
            turn() = 0
            radius(0, 1) = 9
            radius(0, 2) = 6
            radius(0, 3) = 3
            radius(0, 4) = 0
            """);
        Script.run("a LINE over all 64 places, up and down", """
            start(0)
            line(64, 500) = 1
            turn() = 0
            radius(0, 1) = 7
            radius(0, 32) = 250
            radius(0, 63) = 492
            start(500)
            line(64, 0) = 1
            turn() = 1
            radius(1, 1) = 492
            radius(1, 32) = 250
            radius(1, 63) = 7
            """);
        Script.run("a level LINE, and one of a single step", """
            start(7)
            line(5, 7) = 1
            line(6, 300) = 2
            turn() = 0
            radius(0, 3) = 7
            radius(0, 5) = 7
            radius(0, 6) = 300
            """);
    }

    private static void arcDistances() {
        Script.run("both its ends must be as far from the centre: one off by a place or a radius", """
            start(12)
            arc(10, 11, 5, 0, true) = false
            arc(10, 13, 5, 0, true) = false
            arc(9, 12, 5, 0, true) = false
            arc(11, 12, 5, 0, true) = false
            arc(10, 12, 4, 0, true) = false
            arc(10, 12, 6, 0, true) = false
            arc(10, 12, 5, 0, true) = true
            """);
        Script.run("as far from the centre: by squares, not by the sum of the ways", """
            start(13)
            arc(17, 0, 5, 1, true) = false
            arc(5, 13, 0, 0, true) = false
            arc(5, 11, 0, 0, true) = false
            arc(5, 12, 0, 1, true) = false
            arc(5, 12, 0, -1, true) = false
            arc(5, 12, 0, 0, true) = true
            arc(12, 5, 0, 0, true) = true
            arc(13, 0, 0, 0, true) = true
            turn() = 0
            about(0, 2) = 3
            radius(0, 4) = 12
            radius(0, 9) = 9
            radius(0, 13) = 0
            """);
    }

    private static void arcSides() {
        Script.run("not below h if it is UPPER: at h", """
            start(12)
            arc(10, 12, 5, 12, true) = true
            turn() = 0
            radius(0, 5) = 17
            """);
        Script.run("not below h if it is UPPER: one below, one above", """
            start(12)
            arc(10, 12, 5, 13, true) = false
            arc(10, 12, 5, 11, true) = true
            """);
        Script.run("not above it else: at h", """
            start(12)
            arc(10, 12, 5, 12, false) = true
            turn() = 0
            radius(0, 5) = 7
            """);
        Script.run("not above it else: one above, one below", """
            start(12)
            arc(10, 12, 5, 11, false) = false
            arc(10, 12, 5, 13, false) = true
            """);
        Script.run("the ends: only the first one is below h", """
            start(11)
            arc(10, 13, 5, 12, true) = false
            arc(10, 13, 5, 12, false) = false
            """);
        Script.run("the ends: only the second one is below h", """
            start(13)
            arc(10, 11, 5, 12, true) = false
            arc(10, 11, 5, 12, false) = false
            """);
        Script.run("the ends: one of them at h, UPPER", """
            start(12)
            arc(18, 0, 5, 0, false) = false
            arc(18, 0, 5, 0, true) = true
            arc(31, 13, 31, 0, false) = false
            arc(31, 13, 31, 0, true) = true
            """);
        Script.run("the ends: one of them at h, not UPPER", """
            start(0)
            arc(18, 12, 5, 12, true) = false
            arc(18, 12, 5, 12, false) = true
            arc(31, 0, 31, 13, true) = false
            line(19, 13) = 2
            arc(32, 0, 32, 13, true) = false
            arc(32, 0, 32, 13, false) = true
            """);
        Script.run("an h below all radii, and one above them", """
            start(0)
            arc(4, 0, 2, -1, false) = false
            arc(4, 0, 2, -1, true) = true
            turn() = 0
            radius(0, 1) = 1
            radius(0, 2) = 1
            start(500)
            arc(4, 500, 2, 501, true) = false
            arc(4, 500, 2, 501, false) = true
            turn() = 1
            radius(1, 1) = 499
            radius(1, 2) = 499
            """);
    }

    private static void arcRoots() {
        Script.run("the greatest whole number with s * s <= ..: squares, and one less", """
            start(100)
            arc(10, 100, 5, 100, true) = true
            turn() = 0
            radius(0, 1) = 103
            radius(0, 2) = 104
            radius(0, 3) = 104
            radius(0, 4) = 104
            radius(0, 5) = 105
            radius(0, 6) = 104
            radius(0, 9) = 103
            radius(0, 10) = 100
            start(100)
            arc(10, 100, 5, 100, false) = true
            turn() = 1
            radius(1, 1) = 97
            radius(1, 2) = 96
            radius(1, 3) = 96
            radius(1, 4) = 96
            radius(1, 5) = 95
            radius(1, 9) = 97
            radius(1, 10) = 100
            """);
        Script.run("the greatest Q: the farthest centres", """
            start(500)
            arc(64, 500, 32, -1000, true) = true
            turn() = 0
            radius(0, 32) = 500
            start(0)
            arc(64, 0, 32, 1500, false) = true
            turn() = 1
            radius(1, 32) = 0
            start(0)
            arc(1, 0, -200, 0, true) = false
            arc(1, 0, 300, 0, true) = false
            """);
        Script.run("centres at -200 and at 300", """
            start(401)
            arc(1, 399, -200, 200, true) = false
            arc(1, 400, -200, 200, true) = true
            turn() = 0
            radius(0, 1) = 400
            start(100)
            arc(1, 101, 300, 399, false) = false
            arc(1, 99, 300, 399, true) = false
            arc(1, 99, 300, 399, false) = true
            turn() = 1
            radius(1, 1) = 99
            """);
    }

    private static void arcBounds() {
        Script.run("but 0 if that is less: 1, 0 and -1", """
            start(6)
            arc(10, 6, 5, 6, false) = true
            turn() = 0
            radius(0, 5) = 1
            start(5)
            arc(10, 5, 5, 5, false) = true
            turn() = 1
            radius(1, 5) = 0
            start(4)
            arc(10, 4, 5, 4, false) = true
            turn() = 2
            radius(2, 4) = 0
            radius(2, 5) = 0
            radius(2, 6) = 0
            start(0)
            arc(64, 0, 32, 0, false) = true
            turn() = 3
            radius(3, 32) = 0
            """);
        Script.run("500 if it is more: 499, 500 and 501", """
            start(494)
            arc(10, 494, 5, 494, true) = true
            turn() = 0
            radius(0, 5) = 499
            start(495)
            arc(10, 495, 5, 495, true) = true
            turn() = 1
            radius(1, 5) = 500
            start(496)
            arc(10, 496, 5, 496, true) = true
            turn() = 2
            radius(2, 4) = 500
            radius(2, 5) = 500
            radius(2, 6) = 500
            about(2, 1) = 503
            start(500)
            arc(64, 500, 32, 500, true) = true
            turn() = 3
            radius(3, 32) = 500
            """);
    }

    private static void pieces() {
        Script.run("A PIECE 0 .. 5 (as they are turned)", """
            start(1)
            line(1, 1) = 1
            turn() = 0
            line(2, 2) = 2
            turn() = 1
            line(3, 3) = 3
            turn() = 2
            line(4, 4) = 4
            turn() = 3
            line(5, 5) = 5
            turn() = 4
            line(6, 6) = 6
            turn() = 5
            turn() = throws.IllegalStateException
            about(0, 0) = 1
            about(1, 0) = 2
            about(2, 0) = 3
            about(3, 0) = 4
            about(4, 0) = 5
            about(5, 0) = 6
            about(6, 0) = throws.IndexOutOfBoundsException
            about(-1, 0) = throws.IndexOutOfBoundsException
            radius(5, 6) = 6
            radius(4, 6) = throws.IndexOutOfBoundsException
            """);
        Script.run("the PROFILE stays and may go on", """
            start(1)
            line(4, 9) = 1
            turn() = 0
            turn() = 1
            line(4, 9) = throws.IllegalArgumentException
            line(5, 2) = 2
            turn() = 2
            start(400)
            line(9, 400) = 1
            radius(0, 4) = 9
            radius(0, 5) = throws.IndexOutOfBoundsException
            radius(1, 4) = 9
            about(1, 2) = 1
            radius(2, 0) = 1
            radius(2, 4) = 9
            radius(2, 5) = 2
            about(2, 2) = 2
            """);
        Script.run("a shorter PROFILE behind a longer one has its own last place", """
            start(50)
            line(64, 50) = 1
            turn() = 0
            start(3)
            line(2, 3) = 1
            turn() = 1
            about(1, 0) = 2
            about(1, 1) = 6
            radius(1, 3) = throws.IndexOutOfBoundsException
            radius(0, 64) = 50
            """);
    }

    private static void blanks() {
        Script.run("BLANK is its greatest radius and 3: least and greatest", """
            start(0)
            line(1, 0) = 1
            turn() = 0
            about(0, 1) = 3
            line(2, 500) = 2
            turn() = 1
            about(1, 1) = 503
            """);
        Script.run("BLANK: at the first place, at the last one, within an arc", """
            start(9)
            line(4, 2) = 1
            turn() = 0
            about(0, 1) = 12
            start(2)
            line(4, 9) = 1
            turn() = 1
            about(1, 1) = 12
            start(2)
            arc(10, 2, 5, 2, true) = true
            turn() = 2
            about(2, 1) = 10
            """);
    }

    private static void noseHeights() {
        Script.run("H(d) of the greatest NOSE, behind a peak at LENGTH", """
            start(0)
            line(11, 0) = 1
            line(12, 100) = 2
            turn() = 0
            tool(12) = 0
            reached(0, 0, 0) = 88
            reached(0, 0, 1) = 89
            reached(0, 0, 2) = 89
            reached(0, 0, 3) = 89
            reached(0, 0, 4) = 89
            reached(0, 0, 5) = 90
            reached(0, 0, 6) = 90
            reached(0, 0, 7) = 91
            reached(0, 0, 8) = 92
            reached(0, 0, 9) = 93
            reached(0, 0, 10) = 94
            reached(0, 0, 11) = 96
            reached(0, 0, 12) = 100
            """);
        Script.run("H(d) of the greatest NOSE, before a peak at place 0", """
            start(100)
            line(1, 0) = 1
            line(12, 0) = 2
            turn() = 0
            tool(12) = 0
            reached(0, 0, 0) = 100
            reached(0, 0, 1) = 96
            reached(0, 0, 2) = 94
            reached(0, 0, 3) = 93
            reached(0, 0, 4) = 92
            reached(0, 0, 5) = 91
            reached(0, 0, 6) = 90
            reached(0, 0, 7) = 90
            reached(0, 0, 8) = 89
            reached(0, 0, 11) = 89
            reached(0, 0, 12) = 88
            """);
        Script.run("d = -n .. n: a peak just within the NOSE, and one just beyond it", """
            start(0)
            line(2, 0) = 1
            line(3, 50) = 2
            turn() = 0
            start(0)
            line(3, 0) = 1
            line(4, 50) = 2
            turn() = 1
            tool(3) = 0
            reached(0, 0, 0) = 47
            reached(0, 0, 1) = 48
            reached(1, 0, 0) = 0
            reached(1, 0, 1) = 1
            reached(1, 0, 2) = 1
            reached(1, 0, 3) = 3
            """);
        Script.run("a NOSE of 0 is the place itself", """
            start(9)
            line(1, 0) = 1
            line(2, 9) = 2
            turn() = 0
            tool(0) = 0
            reached(0, 0, 0) = 9
            reached(0, 0, 1) = 0
            reached(0, 0, 2) = 9
            left(0, 0) = 0
            """);
    }

    private static void noseAtEnds() {
        Script.run("a place x + d of the piece: a piece of two places, wider NOSES", """
            start(10)
            line(1, 20) = 1
            turn() = 0
            start(20)
            line(1, 10) = 1
            turn() = 1
            tool(12) = 0
            tool(1) = 1
            reached(0, 0, 0) = 19
            reached(0, 0, 1) = 20
            reached(1, 0, 0) = 20
            reached(1, 0, 1) = 19
            reached(0, 1, 0) = 19
            reached(0, 1, 1) = 20
            reached(1, 1, 0) = 20
            reached(1, 1, 1) = 19
            """);
        Script.run("a place x + d of the piece: nothing stands before place 0 or behind LENGTH", """
            start(500)
            line(64, 500) = 1
            turn() = 0
            start(3)
            line(4, 3) = 1
            turn() = 1
            tool(12) = 0
            reached(1, 0, 0) = 3
            reached(1, 0, 4) = 3
            left(1, 0) = 0
            reached(0, 0, 64) = 500
            """);
    }

    private static void leftPlaces() {
        Script.run("LEFT are places where REACHED is above the radius: one above, and alike", """
            start(10)
            line(2, 10) = 1
            line(3, 9) = 2
            line(4, 10) = 3
            line(6, 10) = 4
            turn() = 0
            start(10)
            line(2, 10) = 1
            line(3, 8) = 2
            line(4, 10) = 3
            line(6, 10) = 4
            turn() = 1
            tool(1) = 0
            reached(0, 0, 3) = 9
            left(0, 0) = 0
            reached(1, 0, 3) = 9
            left(1, 0) = 1
            """);
        Script.run("LEFT: at both ends, and everywhere but at one place", """
            start(0)
            line(1, 20) = 1
            line(2, 0) = 2
            turn() = 0
            start(0)
            line(4, 0) = 1
            line(5, 300) = 2
            turn() = 1
            tool(12) = 0
            left(0, 0) = 2
            left(1, 0) = 5
            """);
    }

    private static void roughBlank() {
        Script.run("WANTED .. but BLANK at most", """
            start(10)
            line(4, 10) = 1
            turn() = 0
            tool(1) = 0
            passes(0, 0, 1, 2) = 1
            cut(0, 0, 1, 2, 1) = 5
            cut(0, 0, 1, 2, 2) = 0
            passes(0, 0, 1, 3) = 0
            cut(0, 0, 1, 3, 1) = 0
            passes(0, 0, 1, 4) = 0
            cut(0, 0, 1, 4, 1) = 0
            passes(0, 0, 1, 50) = 0
            cut(0, 0, 1, 50, 1) = 0
            passes(0, 0, 100, 50) = 0
            """);
        Script.run("WANTED is of REACHED, not of the radius", """
            start(10)
            line(2, 10) = 1
            line(3, 0) = 2
            line(4, 10) = 3
            turn() = 0
            tool(1) = 0
            tool(0) = 1
            passes(0, 0, 1, 0) = 4
            passes(0, 1, 1, 0) = 13
            cut(0, 0, 1, 0, 4) = 1
            cut(0, 0, 1, 0, 5) = 0
            cut(0, 1, 1, 0, 13) = 1
            cut(0, 1, 1, 0, 14) = 0
            """);
    }

    private static void roughPasses() {
        Script.run("below BLANK - (k - 1) * depth", """
            start(10)
            line(4, 10) = 1
            turn() = 0
            tool(0) = 0
            passes(0, 0, 1, 0) = 3
            cut(0, 0, 1, 0, 3) = 5
            cut(0, 0, 1, 0, 4) = 0
            passes(0, 0, 2, 0) = 2
            cut(0, 0, 2, 0, 2) = 5
            cut(0, 0, 2, 0, 3) = 0
            passes(0, 0, 3, 0) = 1
            cut(0, 0, 3, 0, 1) = 5
            cut(0, 0, 3, 0, 2) = 0
            passes(0, 0, 4, 0) = 1
            passes(0, 0, 100, 0) = 1
            """);
        Script.run("PASSES: the most of them", """
            start(0)
            line(1, 500) = 1
            turn() = 0
            tool(0) = 0
            passes(0, 0, 1, 0) = 503
            cut(0, 0, 1, 0, 3) = 2
            cut(0, 0, 1, 0, 4) = 1
            cut(0, 0, 1, 0, 503) = 1
            cut(0, 0, 1, 0, 504) = 0
            passes(0, 0, 100, 0) = 6
            cut(0, 0, 100, 0, 6) = 1
            cut(0, 0, 100, 0, 7) = 0
            passes(0, 0, 1, 50) = 453
            cut(0, 0, 1, 50, 453) = 1
            cut(0, 0, 1, 50, 454) = 0
            """);
        Script.run("no wood at all is cut from its BLANK of 3", """
            start(0)
            line(1, 0) = 1
            turn() = 0
            tool(12) = 0
            passes(0, 0, 1, 0) = 3
            cut(0, 0, 1, 0, 3) = 2
            cut(0, 0, 1, 0, 4) = 0
            passes(0, 0, 1, 3) = 0
            """);
    }

    private static void steadyReach() {
        Script.run("(q - p) * span <= the least radius: alike, and one less", """
            start(12)
            line(10, 12) = 1
            turn() = 0
            start(11)
            line(10, 11) = 1
            turn() = 1
            steady(0, 4, 0) = 3
            steady(0, 4, 1) = 6
            steady(0, 4, 2) = 9
            steady(0, 4, 3) = throws.IllegalStateException
            steady(1, 4, 0) = 2
            steady(1, 4, 3) = 8
            steady(1, 4, 4) = throws.IllegalStateException
            """);
        Script.run("of places p .. q: p itself counts", """
            start(2)
            line(1, 100) = 1
            line(10, 100) = 2
            turn() = 0
            steady(0, 2, 0) = 1
            steady(0, 2, 1) = throws.IllegalStateException
            """);
        Script.run("of places p .. q: q itself counts, and those between", """
            start(100)
            line(4, 100) = 1
            line(5, 1) = 2
            line(6, 100) = 3
            line(20, 100) = 4
            turn() = 0
            steady(0, 1, 0) = 4
            steady(0, 1, 1) = 5
            steady(0, 1, 2) = 6
            steady(0, 1, 3) = throws.IllegalStateException
            """);
        Script.run("the greatest q up to LENGTH", """
            start(10)
            line(10, 10) = 1
            turn() = 0
            start(9)
            line(10, 9) = 1
            turn() = 1
            steady(0, 1, 0) = throws.IllegalStateException
            steady(1, 1, 0) = 9
            steady(1, 1, 1) = throws.IllegalStateException
            """);
    }

    private static void steadyOneOn() {
        Script.run("but p + 1 if there is none: the span is above the radius", """
            start(5)
            line(4, 5) = 1
            turn() = 0
            steady(0, 5, 0) = 1
            steady(0, 6, 0) = 1
            steady(0, 6, 1) = 2
            steady(0, 6, 2) = 3
            steady(0, 6, 3) = throws.IllegalStateException
            """);
        Script.run("but p + 1 if there is none: no radius at all", """
            start(0)
            line(64, 0) = 1
            turn() = 0
            steady(0, 1, 0) = 1
            steady(0, 1, 62) = 63
            steady(0, 1, 63) = throws.IllegalStateException
            steady(0, 500, 62) = 63
            steady(0, 500, 63) = throws.IllegalStateException
            """);
        Script.run("the greatest span and the greatest radius", """
            start(500)
            line(3, 500) = 1
            turn() = 0
            steady(0, 500, 0) = 1
            steady(0, 500, 1) = 2
            steady(0, 500, 2) = throws.IllegalStateException
            steady(0, 250, 0) = 2
            steady(0, 250, 1) = throws.IllegalStateException
            """);
    }

    private static void steadyBeforeLength() {
        Script.run("those before LENGTH: LENGTH by the radius is none", """
            start(8)
            line(4, 8) = 1
            turn() = 0
            steady(0, 2, 0) = throws.IllegalStateException
            steady(0, 4, 0) = 2
            steady(0, 4, 1) = throws.IllegalStateException
            """);
        Script.run("those before LENGTH: LENGTH by p + 1 is none", """
            start(0)
            line(1, 0) = 1
            turn() = 0
            line(2, 0) = 2
            turn() = 1
            steady(0, 1, 0) = throws.IllegalStateException
            steady(1, 1, 0) = 1
            steady(1, 1, 1) = throws.IllegalStateException
            """);
    }

    private static void volumes() {
        Script.run("VOLUME: FLOOR, and 1 above a bound that is whole", """
            start(500)
            line(1, 500) = 1
            turn() = 0
            volume(0, false) = 785397
            volume(0, true) = 785401
            start(1)
            line(1, 1) = 1
            turn() = 1
            volume(1, false) = 3
            volume(1, true) = 4
            """);
        Script.run("VOLUME: of no wood, and of the most", """
            start(0)
            line(64, 0) = 1
            turn() = 0
            volume(0, false) = 0
            volume(0, true) = 1
            start(500)
            line(64, 500) = 1
            turn() = 1
            volume(1, false) = 50265440
            volume(1, true) = 50265601
            """);
        Script.run("VOLUME: the lesser and the greater of each two, rising and falling", """
            start(0)
            line(1, 10) = 1
            line(2, 0) = 2
            turn() = 0
            volume(0, false) = 0
            volume(0, true) = 629
            """);
    }

    private static void hollows() {
        Script.run("HOLLOW: a radius less the wall that is not below the bar", """
            start(20)
            line(3, 20) = 1
            turn() = 0
            hollow(0, 12, 8) = 4
            hollow(0, 13, 8) = 0
            hollow(0, 12, 9) = 0
            hollow(0, 20, 0) = 4
            hollow(0, 21, 0) = 0
            """);
        Script.run("HOLLOW: from LENGTH down, one behind the other", """
            start(20)
            line(2, 20) = 1
            line(3, 5) = 2
            line(4, 20) = 3
            line(6, 20) = 4
            turn() = 0
            hollow(0, 6, 0) = 3
            hollow(0, 5, 0) = 7
            line(7, 5) = 5
            turn() = 1
            hollow(1, 6, 0) = 0
            hollow(1, 5, 0) = 8
            """);
        Script.run("HOLLOW: only place 0 is too thin", """
            start(4)
            line(1, 20) = 1
            line(64, 20) = 2
            turn() = 0
            hollow(0, 5, 0) = 64
            hollow(0, 4, 0) = 65
            """);
    }

    private static void wedges() {
        StringBuilder sixteen = new StringBuilder("ring() = 0\nring() = 1\n");
        for (int n = 1; n <= 16; n++) {
            sixteen.append("wedge(0, ").append(2 * n).append(", 1) = ").append(n).append('\n');
        }
        Script.run("WEDGES, 16 at most, and of each ring its own", sixteen.toString(), """
            wedge(0, 1, 1) = throws.IllegalStateException
            mitre(0, 0, 0) = 1
            mitre(0, 15, 0) = 16
            mitre(0, 16, 0) = throws.IndexOutOfBoundsException
            gap(0, 0) = 88
            wedge(1, 1, 1) = 1
            gap(1, 0) = 359
            mitre(1, 1, 0) = throws.IndexOutOfBoundsException
            """);
        Script.run("it CLOSES if that is 0: a little short, whole, a little much", """
            ring() = 0
            wedge(0, 359, 1) = 1
            closes(0) = false
            wedge(0, 11, 12) = 2
            closes(0) = false
            gap(0, 0) = 1
            gap(0, 1) = 12
            wedge(0, 1, 12) = 3
            closes(0) = true
            gap(0, 0) = 0
            gap(0, 1) = 1
            wedge(0, 1, 12) = 4
            closes(0) = false
            gap(0, 0) = -1
            gap(0, 1) = 12
            """);
        Script.run("a ring without wedges does not close", """
            ring() = 0
            closes(0) = false
            gap(0, 0) = 360
            gap(0, 1) = 1
            """);
        Script.run("it CLOSES: by unlike parts", """
            ring() = 0
            wedge(0, 360, 7) = 1
            wedge(0, 1800, 7) = 2
            closes(0) = false
            gap(0, 0) = 360
            gap(0, 1) = 7
            wedge(0, 360, 7) = 3
            closes(0) = true
            """);
    }

    private static void fractions() {
        Script.run("without a common divisor", """
            ring() = 0
            wedge(0, 12, 12) = 1
            mitre(0, 0, 0) = 1
            mitre(0, 0, 1) = 2
            gap(0, 0) = 359
            gap(0, 1) = 1
            wedge(0, 8, 12) = 2
            mitre(0, 1, 0) = 1
            mitre(0, 1, 1) = 3
            gap(0, 0) = 1075
            gap(0, 1) = 3
            flute(16, 6, 0) = 135
            flute(16, 6, 1) = 1
            flute(32, 6, 0) = 135
            flute(32, 6, 1) = 2
            thread(6, 4)
            threadAt(1, 0) = 3
            threadAt(1, 1) = 2
            threadAt(6, 0) = 9
            threadAt(6, 1) = 1
            """);
        Script.run("below 1 at least: of 0, and below 0", """
            ring() = 0
            wedge(0, 720, 2) = 1
            gap(0, 0) = 0
            gap(0, 1) = 1
            wedge(0, 6, 4) = 2
            gap(0, 0) = -3
            gap(0, 1) = 2
            wedge(0, 5, 2) = 3
            gap(0, 0) = -4
            gap(0, 1) = 1
            flute(1000, 0, 0) = 0
            flute(1000, 0, 1) = 1
            thread(1, 1000)
            threadAt(0, 0) = 0
            threadAt(0, 1) = 1
            """);
    }
}
