import java.math.BigInteger;
import java.util.ArrayList;
import java.util.List;

/**
 * The document's terms put down as plainly as can be, without any of the program's short ways:
 * what a call answers is worked out anew from the ways, tools, wedges and rows each time.
 */
final class PlainLathe {
    /** A way: from x0, r0 to x1, r1, by a line or by an arc about c, h. */
    record Way(int x0, int r0, int x1, int r1, boolean isArc, int c, int h, boolean upper) {
        int radiusAt(int x) {
            if (!isArc) {
                int above = (x - x0) * (r1 - r0);
                int below = x1 - x0;
                int floor = above / below;
                return r0 + (floor * below > above ? floor - 1 : floor);
            }
            int far = (x0 - c) * (x0 - c) + (r0 - h) * (r0 - h);
            int s = 0;
            while ((s + 1) * (s + 1) <= far - (x - c) * (x - c)) {
                s++;
            }
            int radius = upper ? h + s : h - s;
            return radius < 0 ? 0 : radius > 500 ? 500 : radius;
        }
    }

    record Profile(int first, List<Way> ways) {
        int last() {
            return ways.isEmpty() ? 0 : ways.get(ways.size() - 1).x1();
        }

        int lastRadius() {
            return ways.isEmpty() ? first : ways.get(ways.size() - 1).r1();
        }

        int radiusAt(int x) {
            for (Way way : ways) {
                if (x >= way.x0() && x <= way.x1()) {
                    return way.radiusAt(x);
                }
            }
            throw new IllegalArgumentException("no such place");
        }

        int blank() {
            int greatest = first;
            for (int x = 0; x <= last(); x++) {
                greatest = Math.max(greatest, radiusAt(x));
            }
            return greatest + 3;
        }
    }

    private Profile profile;
    private final List<Profile> pieces = new ArrayList<>();
    private final List<Integer> noses = new ArrayList<>();
    private final List<List<int[]>> rings = new ArrayList<>();
    private final List<int[]> rows = new ArrayList<>();
    private int[] pitch;

    private static String index() {
        return "throws.IndexOutOfBoundsException";
    }

    private static String argument() {
        return "throws.IllegalArgumentException";
    }

    private static String state() {
        return "throws.IllegalStateException";
    }

    private static boolean in(int number, int least, int most) {
        return least <= number && number <= most;
    }

    private boolean noPiece(int piece) {
        return !in(piece, 0, pieces.size() - 1);
    }

    private boolean noPlace(int piece, int x) {
        return noPiece(piece) || !in(x, 0, pieces.get(piece).last());
    }

    private boolean noTool(int tool) {
        return !in(tool, 0, noses.size() - 1);
    }

    private boolean noRing(int ring) {
        return !in(ring, 0, rings.size() - 1);
    }

    /** What a call answers, as Script tells it. */
    String answer(String name, int[] a, boolean upper) {
        switch (name) {
            case "start": return start(a[0]);
            case "line": return line(a[0], a[1]);
            case "arc": return arc(a[0], a[1], a[2], a[3], upper);
            case "turn": return turn();
            case "radius": return noPlace(a[0], a[1]) ? index() : "" + pieces.get(a[0]).radiusAt(a[1]);
            case "about": return about(a[0], a[1]);
            case "tool": return tool(a[0]);
            case "reached": return noPlace(a[0], a[2]) || noTool(a[1]) ? index() : "" + reached(a[0], a[1], a[2]);
            case "left": return left(a[0], a[1]);
            case "passes": return passes(a[0], a[1], a[2], a[3]);
            case "cut": return cut(a[0], a[1], a[2], a[3], a[4]);
            case "steady": return steady(a[0], a[1], a[2]);
            case "volume": return volume(a[0], upper);
            case "hollow": return hollow(a[0], a[1], a[2]);
            case "copy": return copy(a[0], a[1]);
            case "ring": return ring();
            case "wedge": return wedge(a[0], a[1], a[2]);
            case "mitre": return mitre(a[0], a[1], a[2]);
            case "gap": return noRing(a[0]) || !in(a[1], 0, 1) ? index() : part(gap(a[0]), a[1]);
            case "closes": return noRing(a[0]) ? index() : "" + gap(a[0])[0].equals(BigInteger.ZERO);
            case "flute": return flute(a[0], a[1], a[2]);
            case "thread": return thread(a[0], a[1]);
            case "threadAt": return threadAt(a[0], a[1]);
            case "row": return row(a[0], a[1]);
            case "speed": return speed(a[0], a[1]);
            default: throw new IllegalArgumentException(name);
        }
    }

    private String start(int radius) {
        if (!in(radius, 0, 500)) {
            return argument();
        }
        profile = new Profile(radius, new ArrayList<>());
        return "null";
    }

    private String line(int at, int radius) {
        if (!in(at, 1, 64) || !in(radius, 0, 500)) {
            return argument();
        }
        if (profile == null) {
            return state();
        }
        if (at <= profile.last()) {
            return argument();
        }
        profile.ways().add(new Way(profile.last(), profile.lastRadius(), at, radius, false, 0, 0, false));
        return "" + profile.ways().size();
    }

    private String arc(int at, int radius, int c, int h, boolean upper) {
        if (!in(at, 1, 64) || !in(radius, 0, 500) || !in(c, -200, 300) || !in(h, -1000, 1500)) {
            return argument();
        }
        if (profile == null) {
            return state();
        }
        if (at <= profile.last()) {
            return argument();
        }
        int x0 = profile.last();
        int r0 = profile.lastRadius();
        boolean far = (x0 - c) * (x0 - c) + (r0 - h) * (r0 - h) == (at - c) * (at - c) + (radius - h) * (radius - h);
        boolean side = upper ? r0 >= h && radius >= h : r0 <= h && radius <= h;
        if (far && side) {
            profile.ways().add(new Way(x0, r0, at, radius, true, c, h, upper));
        }
        return "" + (far && side);
    }

    private String turn() {
        if (pieces.size() == 6 || profile == null || profile.ways().isEmpty()) {
            return state();
        }
        pieces.add(new Profile(profile.first(), new ArrayList<>(profile.ways())));
        return "" + (pieces.size() - 1);
    }

    private String about(int piece, int what) {
        if (noPiece(piece) || !in(what, 0, 2)) {
            return index();
        }
        Profile wood = pieces.get(piece);
        return "" + (what == 0 ? wood.last() : what == 1 ? wood.blank() : wood.ways().size());
    }

    private String tool(int nose) {
        if (!in(nose, 0, 12)) {
            return argument();
        }
        if (noses.size() == 6) {
            return state();
        }
        noses.add(nose);
        return "" + (noses.size() - 1);
    }

    private static int height(int nose, int d) {
        int height = nose;
        while (height * height + d * d > nose * nose) {
            height--;
        }
        return height;
    }

    private int lift(Profile wood, int nose, int x) {
        int greatest = Integer.MIN_VALUE;
        for (int d = -nose; d <= nose; d++) {
            if (in(x + d, 0, wood.last())) {
                greatest = Math.max(greatest, wood.radiusAt(x + d) + height(nose, d));
            }
        }
        return greatest;
    }

    private int reached(int piece, int tool, int x) {
        Profile wood = pieces.get(piece);
        int nose = noses.get(tool);
        int least = Integer.MAX_VALUE;
        for (int d = -nose; d <= nose; d++) {
            if (in(x + d, 0, wood.last())) {
                least = Math.min(least, lift(wood, nose, x + d) - height(nose, d));
            }
        }
        return least;
    }

    private int[] reachedAll(int piece, int tool) {
        int[] all = new int[pieces.get(piece).last() + 1];
        for (int x = 0; x < all.length; x++) {
            all[x] = reached(piece, tool, x);
        }
        return all;
    }

    private String left(int piece, int tool) {
        if (noPiece(piece) || noTool(tool)) {
            return index();
        }
        int[] all = reachedAll(piece, tool);
        int count = 0;
        for (int x = 0; x < all.length; x++) {
            count += all[x] > pieces.get(piece).radiusAt(x) ? 1 : 0;
        }
        return "" + count;
    }

    private static int cuts(int[] all, int blank, int depth, int skin, long k) {
        int count = 0;
        for (int low : all) {
            int wanted = Math.min(low + skin, blank);
            count += wanted < blank - (k - 1) * depth ? 1 : 0;
        }
        return count;
    }

    private String passes(int piece, int tool, int depth, int skin) {
        if (noPiece(piece) || noTool(tool)) {
            return index();
        }
        if (!in(depth, 1, 100) || !in(skin, 0, 50)) {
            return argument();
        }
        int[] all = reachedAll(piece, tool);
        int blank = pieces.get(piece).blank();
        int count = 0;
        for (int k = 1; k <= 600; k++) {
            count += cuts(all, blank, depth, skin, k) > 0 ? 1 : 0;
        }
        return "" + count;
    }

    private String cut(int piece, int tool, int depth, int skin, int k) {
        if (noPiece(piece) || noTool(tool)) {
            return index();
        }
        if (!in(depth, 1, 100) || !in(skin, 0, 50) || k < 1) {
            return argument();
        }
        return "" + cuts(reachedAll(piece, tool), pieces.get(piece).blank(), depth, skin, k);
    }

    private String steady(int piece, int span, int k) {
        if (noPiece(piece)) {
            return index();
        }
        if (!in(span, 1, 500) || k < 0) {
            return argument();
        }
        Profile wood = pieces.get(piece);
        List<Integer> steadies = new ArrayList<>();
        int p = 0;
        while (p < wood.last()) {
            int next = -1;
            for (int q = wood.last(); q > p && next < 0; q--) {
                int least = 500;
                for (int x = p; x <= q; x++) {
                    least = Math.min(least, wood.radiusAt(x));
                }
                next = (q - p) * span <= least ? q : next;
            }
            p = next < 0 ? p + 1 : next;
            if (p < wood.last()) {
                steadies.add(p);
            }
        }
        return k < steadies.size() ? "" + steadies.get(k) : state();
    }

    private String volume(int piece, boolean upper) {
        if (noPiece(piece)) {
            return index();
        }
        Profile wood = pieces.get(piece);
        BigInteger sum = BigInteger.ZERO;
        for (int x = 0; x < wood.last(); x++) {
            int one = wood.radiusAt(x);
            int two = wood.radiusAt(x + 1);
            BigInteger side = BigInteger.valueOf(upper ? Math.max(one, two) : Math.min(one, two));
            sum = sum.add(side.multiply(side));
        }
        BigInteger factor = BigInteger.valueOf(upper ? 314160 : 314159);
        return "" + sum.multiply(factor).divide(BigInteger.valueOf(100000)).add(BigInteger.valueOf(upper ? 1 : 0));
    }

    private String hollow(int piece, int wall, int bar) {
        if (noPiece(piece)) {
            return index();
        }
        if (!in(wall, 1, 100) || !in(bar, 0, 100)) {
            return argument();
        }
        Profile wood = pieces.get(piece);
        int count = 0;
        while (count <= wood.last() && wood.radiusAt(wood.last() - count) - wall >= bar) {
            count++;
        }
        return "" + count;
    }

    private String copy(int piece, int other) {
        if (noPiece(piece) || noPiece(other)) {
            return index();
        }
        Profile one = pieces.get(piece);
        Profile two = pieces.get(other);
        int greatest = 0;
        for (int x = 0; x <= Math.min(one.last(), two.last()); x++) {
            greatest = Math.max(greatest, Math.abs(one.radiusAt(x) - two.radiusAt(x)));
        }
        return "" + greatest;
    }

    private String ring() {
        if (rings.size() == 6) {
            return state();
        }
        rings.add(new ArrayList<>());
        return "" + (rings.size() - 1);
    }

    private String wedge(int ring, int above, int below) {
        if (noRing(ring)) {
            return index();
        }
        if (!in(above, 1, 3600) || !in(below, 1, 12)) {
            return argument();
        }
        if (rings.get(ring).size() == 16) {
            return state();
        }
        rings.get(ring).add(new int[] {above, below});
        return "" + rings.get(ring).size();
    }

    private static BigInteger[] fraction(long above, long below) {
        return new BigInteger[] {BigInteger.valueOf(above), BigInteger.valueOf(below)};
    }

    private static String part(BigInteger[] fraction, int part) {
        return "" + fraction[part].divide(fraction[0].gcd(fraction[1]));
    }

    private String mitre(int ring, int wedge, int part) {
        if (noRing(ring) || !in(wedge, 0, rings.get(ring).size() - 1) || !in(part, 0, 1)) {
            return index();
        }
        int[] degrees = rings.get(ring).get(wedge);
        return part(fraction(degrees[0], 2L * degrees[1]), part);
    }

    private BigInteger[] gap(int ring) {
        BigInteger[] gap = fraction(360, 1);
        for (int[] degrees : rings.get(ring)) {
            BigInteger above = BigInteger.valueOf(degrees[0]);
            BigInteger below = BigInteger.valueOf(degrees[1]);
            gap[0] = gap[0].multiply(below).subtract(above.multiply(gap[1]));
            gap[1] = gap[1].multiply(below);
        }
        return gap;
    }

    private String flute(int n, int k, int part) {
        if (!in(part, 0, 1)) {
            return index();
        }
        return !in(n, 1, 1000) || !in(k, 0, n - 1) ? argument() : part(fraction(k * 360L, n), part);
    }

    private String thread(int above, int below) {
        if (!in(above, 1, 1000) || !in(below, 1, 1000)) {
            return argument();
        }
        pitch = new int[] {above, below};
        return "null";
    }

    private String threadAt(int k, int part) {
        if (!in(part, 0, 1)) {
            return index();
        }
        if (!in(k, 0, 100000)) {
            return argument();
        }
        return pitch == null ? state() : part(fraction((long) k * pitch[0], pitch[1]), part);
    }

    private String row(int radius, int turns) {
        int before = rows.isEmpty() ? 0 : rows.get(rows.size() - 1)[0];
        if (!in(radius, 1, 500) || radius <= before || !in(turns, 1, 10000)) {
            return argument();
        }
        if (rows.size() == 8) {
            return state();
        }
        rows.add(new int[] {radius, turns});
        return "" + rows.size();
    }

    private String speed(int piece, int x) {
        if (noPlace(piece, x)) {
            return index();
        }
        int turns = -1;
        for (int[] row : rows) {
            if (turns < 0 && row[0] >= pieces.get(piece).radiusAt(x)) {
                turns = row[1];
            }
        }
        return rows.isEmpty() ? state() : "" + (turns < 0 ? rows.get(rows.size() - 1)[1] : turns);
    }
}
