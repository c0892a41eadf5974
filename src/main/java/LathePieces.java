import java.util.Arrays;

/** Wood turned on a lathe. Each public method names the document's promise that it keeps. */
public final class LathePieces {
    public static final int NONE = -1;

    private static final int LAST_PLACE = 64;
    private static final int MOST_RADIUS = 500;
    private static final int MOST_PIECES = 6;
    private static final int MOST_TOOLS = 6;
    private static final int MOST_NOSE = 12;
    private static final int MOST_RINGS = 6;
    private static final int MOST_WEDGES = 16;
    private static final int MOST_ROWS = 8;
    private static final int BLANK_ABOVE = 3;
    private static final int FULL_CIRCLE = 360;
    /** Each of 1 .. 12 divides it, so wedges add up in whole numbers. */
    private static final int PARTS_OF_DEGREE = 27720;

    private final Profile profile = new Profile();
    private final Piece[] pieces = new Piece[MOST_PIECES];
    private int pieceCount;
    private final Nose[] noses = new Nose[MOST_TOOLS];
    private int noseCount;
    /** By piece and tool. Neither ever changes, so each pair is worked out once. */
    private final Reach[] reaches = new Reach[MOST_PIECES * MOST_TOOLS];
    private final Ring[] rings = new Ring[MOST_RINGS];
    private int ringCount;
    private final int[] rowRadii = new int[MOST_ROWS];
    private final int[] rowTurns = new int[MOST_ROWS];
    private int rowCount;
    private int pitchAbove;
    /** 0 while there is no PITCH. */
    private int pitchBelow;

    /** Promise 1. */
    public LathePieces() {
    }

    /** Promise 2. */
    public void start(int radius) throws IllegalArgumentException {
        checkNumber(radius, 0, MOST_RADIUS);
        profile.begin(radius);
    }

    /** Promise 3. */
    public int line(int at, int radius) throws IllegalArgumentException, IllegalStateException {
        checkWayEnd(at, radius);
        checkBehindLast(at);
        profile.addLine(at, radius);
        return profile.ways;
    }

    /** Promise 4. */
    public boolean arc(int at, int radius, int c, int h, boolean upper)
            throws IllegalArgumentException, IllegalStateException {
        checkWayEnd(at, radius);
        checkNumber(c, -200, 300);
        checkNumber(h, -1000, 1500);
        checkBehindLast(at);
        if (!profile.arcFits(at, radius, c, h, upper)) {
            return false;
        }
        profile.addArc(at, radius, c, h, upper);
        return true;
    }

    /** Promise 5. */
    public int turn() throws IllegalStateException {
        if (pieceCount >= MOST_PIECES || profile.ways == 0) {
            throw new IllegalStateException("no room for a piece, or no way to turn");
        }
        pieces[pieceCount] = new Piece(profile);
        pieceCount++;
        return pieceCount - 1;
    }

    /** Promise 6. */
    public int radius(int piece, int x) throws IndexOutOfBoundsException {
        return radiusAt(piece, x);
    }

    /** Promise 7. */
    public int about(int piece, int what) throws IndexOutOfBoundsException {
        Piece wood = pieceAt(piece);
        switch (what) {
            case 0:
                return wood.length;
            case 1:
                return wood.blank;
            case 2:
                return wood.ways;
            default:
                throw new IndexOutOfBoundsException("no such what");
        }
    }

    /** Promise 8. */
    public int tool(int nose) throws IllegalArgumentException, IllegalStateException {
        checkNumber(nose, 0, MOST_NOSE);
        if (noseCount >= MOST_TOOLS) {
            throw new IllegalStateException("no room for a tool");
        }
        noses[noseCount] = new Nose(nose);
        noseCount++;
        return noseCount - 1;
    }

    /** Promise 9. */
    public int reached(int piece, int tool, int x) throws IndexOutOfBoundsException {
        Reach reach = reachOf(piece, tool);
        if (x < 0 || x >= reach.lows.length) {
            throw new IndexOutOfBoundsException("no such place");
        }
        return reach.lows[x];
    }

    /** Promise 10. */
    public int left(int piece, int tool) throws IndexOutOfBoundsException {
        return reachOf(piece, tool).placesAbove(pieceAt(piece).radii);
    }

    /** Promise 11. */
    public int passes(int piece, int tool, int depth, int skin)
            throws IndexOutOfBoundsException, IllegalArgumentException {
        Reach reach = reachOf(piece, tool);
        checkRough(depth, skin);
        return reach.passCount(pieceAt(piece).blank, depth, skin);
    }

    /** Promise 12. */
    public int cut(int piece, int tool, int depth, int skin, int k)
            throws IndexOutOfBoundsException, IllegalArgumentException {
        Reach reach = reachOf(piece, tool);
        checkRough(depth, skin);
        checkNotBelow(k, 1);
        int blank = pieceAt(piece).blank;
        return reach.placesCut(blank, skin, blank - (k - 1L) * depth);
    }

    /** Promise 13. */
    public int steady(int piece, int span, int k)
            throws IndexOutOfBoundsException, IllegalArgumentException, IllegalStateException {
        Piece wood = pieceAt(piece);
        checkNumber(span, 1, 500);
        checkNotBelow(k, 0);
        int steps = Math.min(k, wood.length);
        int held = 0;
        for (int n = 0; n <= steps && held < wood.length; n++) {
            held = wood.heldBehind(held, span);
        }
        if (held >= wood.length) {
            throw new IllegalStateException("not so many steadies");
        }
        return held;
    }

    /** Promise 14. */
    public long volume(int piece, boolean upper) throws IndexOutOfBoundsException {
        long squares = pieceAt(piece).sumOfSquares(upper);
        return upper ? squares * 314160 / 100000 + 1 : squares * 314159 / 100000;
    }

    /** Promise 15. */
    public int hollow(int piece, int wall, int bar)
            throws IndexOutOfBoundsException, IllegalArgumentException {
        Piece wood = pieceAt(piece);
        checkNumber(wall, 1, 100);
        checkNumber(bar, 0, 100);
        return wood.lastPlacesFrom(wall + bar);
    }

    /** Promise 16. */
    public int copy(int piece, int other) throws IndexOutOfBoundsException {
        return pieceAt(piece).greatestDifference(pieceAt(other));
    }

    /** Promise 17. */
    public int ring() throws IllegalStateException {
        if (ringCount >= MOST_RINGS) {
            throw new IllegalStateException("no room for a ring");
        }
        rings[ringCount] = new Ring();
        ringCount++;
        return ringCount - 1;
    }

    /** Promise 18. */
    public int wedge(int ring, int above, int below)
            throws IndexOutOfBoundsException, IllegalArgumentException, IllegalStateException {
        Ring segments = ringAt(ring);
        checkNumber(above, 1, 3600);
        checkNumber(below, 1, 12);
        if (segments.count >= MOST_WEDGES) {
            throw new IllegalStateException("no room for a wedge");
        }
        segments.addWedge(above, below);
        return segments.count;
    }

    /** Promise 19. */
    public long mitre(int ring, int wedge, int part) throws IndexOutOfBoundsException {
        Ring segments = ringAt(ring);
        if (wedge < 0 || wedge >= segments.count) {
            throw new IndexOutOfBoundsException("no such wedge");
        }
        checkPart(part);
        return fractionPart(segments.aboves[wedge], 2L * segments.belows[wedge], part);
    }

    /** Promise 20. */
    public long gap(int ring, int part) throws IndexOutOfBoundsException {
        Ring segments = ringAt(ring);
        checkPart(part);
        return fractionPart(segments.gapParts(), PARTS_OF_DEGREE, part);
    }

    /** Promise 21. */
    public boolean closes(int ring) throws IndexOutOfBoundsException {
        return ringAt(ring).gapParts() == 0;
    }

    /** Promise 22. */
    public long flute(int n, int k, int part) throws IndexOutOfBoundsException, IllegalArgumentException {
        checkPart(part);
        checkNumber(n, 1, 1000);
        checkNumber(k, 0, n - 1);
        return fractionPart((long) k * FULL_CIRCLE, n, part);
    }

    /** Promise 23. */
    public void thread(int above, int below) throws IllegalArgumentException {
        checkNumber(above, 1, 1000);
        checkNumber(below, 1, 1000);
        pitchAbove = above;
        pitchBelow = below;
    }

    /** Promise 24. */
    public long threadAt(int k, int part)
            throws IndexOutOfBoundsException, IllegalArgumentException, IllegalStateException {
        checkPart(part);
        checkNumber(k, 0, 100000);
        if (pitchBelow == 0) {
            throw new IllegalStateException("no pitch");
        }
        return fractionPart((long) k * pitchAbove, pitchBelow, part);
    }

    /** Promise 25. */
    public int row(int radius, int turns) throws IllegalArgumentException, IllegalStateException {
        checkNumber(radius, 1, MOST_RADIUS);
        checkNumber(turns, 1, 10000);
        if (rowCount > 0 && radius <= rowRadii[rowCount - 1]) {
            throw new IllegalArgumentException("the radius is not above the one before");
        }
        if (rowCount >= MOST_ROWS) {
            throw new IllegalStateException("no room for a row");
        }
        rowRadii[rowCount] = radius;
        rowTurns[rowCount] = turns;
        rowCount++;
        return rowCount;
    }

    /** Promise 26. */
    public int speed(int piece, int x) throws IndexOutOfBoundsException, IllegalStateException {
        int size = radiusAt(piece, x);
        if (rowCount == 0) {
            throw new IllegalStateException("no rows");
        }
        for (int n = 0; n < rowCount; n++) {
            if (rowRadii[n] >= size) {
                return rowTurns[n];
            }
        }
        return rowTurns[rowCount - 1];
    }

    private Piece pieceAt(int number) {
        Piece found = number >= 0 && number < MOST_PIECES ? pieces[number] : null;
        if (found == null) {
            throw new IndexOutOfBoundsException("no such piece");
        }
        return found;
    }

    private Nose noseAt(int number) {
        Nose found = number >= 0 && number < MOST_TOOLS ? noses[number] : null;
        if (found == null) {
            throw new IndexOutOfBoundsException("no such tool");
        }
        return found;
    }

    private Ring ringAt(int number) {
        Ring found = number >= 0 && number < MOST_RINGS ? rings[number] : null;
        if (found == null) {
            throw new IndexOutOfBoundsException("no such ring");
        }
        return found;
    }

    private int radiusAt(int piece, int x) {
        Piece wood = pieceAt(piece);
        if (x < 0 || x > wood.length) {
            throw new IndexOutOfBoundsException("no such place");
        }
        return wood.radii[x];
    }

    private Reach reachOf(int piece, int tool) {
        Piece wood = pieceAt(piece);
        Nose nose = noseAt(tool);
        int pair = piece * MOST_TOOLS + tool;
        Reach reach = reaches[pair];
        if (reach == null) {
            reach = new Reach(wood.radii, nose.heights);
            reaches[pair] = reach;
        }
        return reach;
    }

    private static void checkWayEnd(int at, int radius) {
        checkNumber(at, 1, LAST_PLACE);
        checkNumber(radius, 0, MOST_RADIUS);
    }

    /** Asked behind all the other numbers: without a PROFILE there is no last place to be behind. */
    private void checkBehindLast(int at) {
        if (!profile.begun) {
            throw new IllegalStateException("no profile was begun");
        }
        if (at <= profile.last) {
            throw new IllegalArgumentException("not behind the last place");
        }
    }

    private static void checkRough(int depth, int skin) {
        checkNumber(depth, 1, 100);
        checkNumber(skin, 0, 50);
    }

    private static void checkNumber(int number, int least, int most) {
        if (number < least || number > most) {
            throw new IllegalArgumentException("a number is not as said");
        }
    }

    private static void checkNotBelow(int number, int least) {
        if (number < least) {
            throw new IllegalArgumentException("a number is too small");
        }
    }

    private static void checkPart(int part) {
        if (part != 0 && part != 1) {
            throw new IndexOutOfBoundsException("no such part");
        }
    }

    /** Part 0 or 1 of above / below without a common divisor; below is 1 at least. */
    private static long fractionPart(long above, long below, int part) {
        long divisor = commonDivisor(below, Math.abs(above));
        return (part == 0 ? above : below) / divisor;
    }

    /** Of a number that is 1 at least and one that is not below 0; it is 1 at least. */
    private static long commonDivisor(long one, long other) {
        // Euclid's way takes fewer than a hundred steps for any two longs.
        for (int step = 0; step < 100 && other > 0; step++) {
            long rest = one % other;
            one = other;
            other = rest;
        }
        return one;
    }

    /** The greatest whole number whose square is not above; squares here stay below 4096 * 4096. */
    private static int wholeRoot(int square) {
        int root = 0;
        for (int bit = 11; bit >= 0; bit--) {
            int next = root + (1 << bit);
            if (next * next <= square) {
                root = next;
            }
        }
        return root;
    }

    /** The PROFILE, with the radii of its places as far as its ways go. */
    private static final class Profile {
        final int[] radii = new int[LAST_PLACE + 1];
        boolean begun;
        int last;
        int lastRadius;
        int ways;

        void begin(int radius) {
            begun = true;
            last = 0;
            lastRadius = radius;
            ways = 0;
            radii[0] = radius;
        }

        void addLine(int at, int radius) {
            int rise = radius - lastRadius;
            for (int x = last + 1; x <= at && x <= LAST_PLACE; x++) {
                radii[x] = lastRadius + Math.floorDiv((x - last) * rise, at - last);
            }
            goOnFrom(at, radius);
        }

        boolean arcFits(int at, int radius, int c, int h, boolean upper) {
            boolean sameFar = squareFar(last - c, lastRadius - h) == squareFar(at - c, radius - h);
            boolean onSide = upper
                    ? lastRadius >= h && radius >= h
                    : lastRadius <= h && radius <= h;
            return sameFar && onSide;
        }

        void addArc(int at, int radius, int c, int h, boolean upper) {
            int far = squareFar(last - c, lastRadius - h);
            for (int x = last + 1; x <= at && x <= LAST_PLACE; x++) {
                int s = wholeRoot(far - (x - c) * (x - c));
                radii[x] = Math.max(0, Math.min(MOST_RADIUS, upper ? h + s : h - s));
            }
            goOnFrom(at, radius);
        }

        void goOnFrom(int at, int radius) {
            last = at;
            lastRadius = radius;
            ways++;
        }

        static int squareFar(int along, int across) {
            return along * along + across * across;
        }
    }

    /** A PIECE: what the PROFILE was when it was turned. */
    private static final class Piece {
        final int[] radii;
        final int length;
        final int blank;
        final int ways;

        Piece(Profile profile) {
            radii = Arrays.copyOf(profile.radii, profile.last + 1);
            length = profile.last;
            ways = profile.ways;
            int greatest = 0;
            for (int x = 0; x < radii.length; x++) {
                greatest = Math.max(greatest, radii[x]);
            }
            blank = greatest + BLANK_ABOVE;
        }

        /** The next held place behind a held place that is before LENGTH. */
        int heldBehind(int held, int span) {
            int next = held + 1;
            int least = radii[held];
            for (int q = held + 1; q <= length; q++) {
                least = Math.min(least, radii[q]);
                // The way only grows and the least radius only sinks: no later place fits.
                if ((q - held) * span > least) {
                    break;
                }
                next = q;
            }
            return next;
        }

        /** Over each two neighbour places, of the greater or of the lesser radius. */
        long sumOfSquares(boolean greater) {
            long sum = 0;
            for (int x = 1; x <= length; x++) {
                long side = greater
                        ? Math.max(radii[x - 1], radii[x])
                        : Math.min(radii[x - 1], radii[x]);
                sum += side * side;
            }
            return sum;
        }

        /** How many places from LENGTH down, one behind the other, have at least this radius. */
        int lastPlacesFrom(int leastRadius) {
            int places = 0;
            for (int x = length; x >= 0 && radii[x] >= leastRadius; x--) {
                places++;
            }
            return places;
        }

        int greatestDifference(Piece other) {
            int greatest = 0;
            for (int x = 0; x <= length && x <= other.length; x++) {
                greatest = Math.max(greatest, Math.abs(radii[x] - other.radii[x]));
            }
            return greatest;
        }
    }

    /** A TOOL: H(d) for d = 0 .. NOSE, the same on either side. */
    private static final class Nose {
        final int[] heights;

        Nose(int nose) {
            heights = new int[nose + 1];
            for (int d = 0; d <= nose; d++) {
                heights[d] = wholeRoot(nose * nose - d * d);
            }
        }
    }

    /** REACHED at each place of one piece with one tool, and what follows from it. */
    private static final class Reach {
        final int[] lows;

        Reach(int[] radii, int[] heights) {
            int[] lifts = new int[radii.length];
            for (int x = 0; x < radii.length; x++) {
                lifts[x] = liftAt(radii, heights, x);
            }
            lows = new int[radii.length];
            for (int x = 0; x < radii.length; x++) {
                lows[x] = lowAt(lifts, heights, x);
            }
        }

        static int liftAt(int[] radii, int[] heights, int x) {
            int nose = heights.length - 1;
            int to = Math.min(x + nose, radii.length - 1);
            int greatest = 0;
            for (int y = Math.max(x - nose, 0); y <= to; y++) {
                greatest = Math.max(greatest, radii[y] + heights[Math.abs(y - x)]);
            }
            return greatest;
        }

        static int lowAt(int[] lifts, int[] heights, int x) {
            int nose = heights.length - 1;
            int to = Math.min(x + nose, lifts.length - 1);
            int least = MOST_RADIUS + MOST_NOSE; // no LIFT is above it
            for (int y = Math.max(x - nose, 0); y <= to; y++) {
                least = Math.min(least, lifts[y] - heights[Math.abs(y - x)]);
            }
            return least;
        }

        int placesAbove(int[] radii) {
            int places = 0;
            for (int x = 0; x < lows.length && x < radii.length; x++) {
                if (lows[x] > radii[x]) {
                    places++;
                }
            }
            return places;
        }

        int placesCut(int blank, int skin, long size) {
            int places = 0;
            for (int x = 0; x < lows.length; x++) {
                if (wantedAt(x, blank, skin) < size) {
                    places++;
                }
            }
            return places;
        }

        /** A pass cuts only where the one before it did, so the least that is WANTED tells how many. */
        int passCount(int blank, int depth, int skin) {
            int least = blank;
            for (int x = 0; x < lows.length; x++) {
                least = Math.min(least, wantedAt(x, blank, skin));
            }
            return (blank - least + depth - 1) / depth;
        }

        int wantedAt(int x, int blank, int skin) {
            return Math.min(lows[x] + skin, blank);
        }
    }

    /** A RING of WEDGES, with their sum in PARTS_OF_DEGREE. */
    private static final class Ring {
        final int[] aboves = new int[MOST_WEDGES];
        final int[] belows = new int[MOST_WEDGES];
        int count;
        long sumParts;

        /** Below is 1 .. 12, and there is room. */
        void addWedge(int above, int below) {
            aboves[count] = above;
            belows[count] = below;
            count++;
            sumParts += (long) above * (PARTS_OF_DEGREE / below);
        }

        long gapParts() {
            return (long) FULL_CIRCLE * PARTS_OF_DEGREE - sumParts;
        }
    }
}
