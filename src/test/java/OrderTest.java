import java.util.ArrayList;
import java.util.List;

/**
 * "Of several exceptions the one named first is thrown": for each promise that names several, all the
 * ways to join good numbers with bad ones. The face always names IndexOutOfBoundsException before
 * IllegalArgumentException before IllegalStateException.
 */
public final class OrderTest {
    private static final List<String> NAMED = List.of(
            "throws.IndexOutOfBoundsException", "throws.IllegalArgumentException", "throws.IllegalStateException");
    private static final int INDEX = 0;
    private static final int ARGUMENT = 1;
    private static final int STATE = 2;
    private static final int GOOD = 3;

    /** A number for one place of a call, and which exception it asks for. */
    private record Number(int value, int rank) {
    }

    private static final String PIECE = """
        start(5)
        line(9, 40) = 1
        turn() = 0
        """;

    private OrderTest() {
    }

    public static void main(String[] args) {
        profiles();
        tools();
        steadies();
        hollows();
        wedges();
        fractions();
        speeds();
        Script.finish();
    }

    /** Written as "good 1 64; argument 0 65": the numbers of one place of a call. */
    private static Number[] numbers(String text) {
        List<String> ranks = List.of("index", "argument", "state", "good");
        List<Number> all = new ArrayList<>();
        for (String group : text.split(";")) {
            String[] words = group.strip().split(" ");
            for (int n = 1; n < words.length; n++) {
                all.add(new Number(Integer.parseInt(words[n]), ranks.indexOf(words[0])));
            }
        }
        return all.toArray(new Number[0]);
    }

    /** Rank is that of the exception which the state alone asks for; tail stands behind the numbers. */
    private static void all(String before, int rank, String name, String tail, String... places) {
        join(before, rank, name + "(", tail, places, 0);
    }

    private static void join(String before, int rank, String call, String tail, String[] places, int place) {
        if (place == places.length) {
            ask(before, rank, call + tail + ")");
            return;
        }
        for (Number number : numbers(places[place])) {
            String longer = call + (place == 0 ? "" : ", ") + number.value();
            join(before, Math.min(rank, number.rank()), longer, tail, places, place + 1);
        }
    }

    private static void ask(String before, int rank, String call) {
        String got = Script.tell(Script.run("before " + call, before), call);
        boolean holds = rank == GOOD ? !got.startsWith("throws.") : got.equals(NAMED.get(rank));
        Script.check(holds, call + " must be " + (rank == GOOD ? "answered" : NAMED.get(rank)) + ", got " + got);
    }

    private static void profiles() {
        String at = "good 1 64; argument 0 -1 65";
        String behind = "good 8 64; argument 7 6 1 0 65";
        String radius = "good 0 500; argument -1 501";
        String c = "good -200 300; argument -201 301";
        String h = "good -1000 1500; argument -1001 1501";
        all("", STATE, "line", "", at, radius);
        all("start(501) = throws.IllegalArgumentException", STATE, "line", "", at, radius);
        all("start(4)", GOOD, "line", "", at, radius);
        all("start(4)\nline(7, 7) = 1", GOOD, "line", "", behind, radius);
        for (String upper : List.of(", true", ", false")) {
            all("", STATE, "arc", upper, at, radius, c, h);
            all("start(4)", GOOD, "arc", upper, at, radius, c, h);
            all("start(4)\nline(7, 7) = 1", GOOD, "arc", upper, behind, radius, c, h);
        }
        all("", STATE, "turn", "");
        all("start(4)", STATE, "turn", "");
        all("start(4)\nline(1, 1) = 1", GOOD, "turn", "");
    }

    private static void tools() {
        String nose = "good 0 12; argument -1 13";
        all("", GOOD, "tool", "", nose);
        all("tool(1) = 0\ntool(1) = 1\ntool(1) = 2\ntool(1) = 3\ntool(1) = 4\n", GOOD, "tool", "", nose);
        all("tool(1) = 0\ntool(1) = 1\ntool(1) = 2\ntool(1) = 3\ntool(1) = 4\ntool(1) = 5\n", STATE, "tool", "", nose);
        String one = "good 0; index -1 1 6";
        String depth = "good 1 100; argument 0 101";
        String skin = "good 0 50; argument -1 51";
        String k = "good 1 2147483647; argument 0 -1";
        all(PIECE + "tool(3) = 0", GOOD, "passes", "", one, one, depth, skin);
        all(PIECE + "tool(3) = 0", GOOD, "cut", "", one, one, depth, skin, k);
        all(PIECE, INDEX, "passes", "", one, one, depth, skin);
        all("tool(3) = 0", INDEX, "passes", "", one, one, depth, skin);
        all(PIECE, INDEX, "cut", "", one, one, depth, skin, k);
        all("tool(3) = 0", INDEX, "cut", "", one, one, depth, skin, k);
    }

    private static void steadies() {
        String span = "good 9 500; argument 0 -1 501";
        String k = "good 0; argument -1; state 9 10 2147483647";
        all(PIECE, GOOD, "steady", "", "good 0; index -1 1 6", span, k);
        all("", INDEX, "steady", "", "index 0 -1 6", span, k);
    }

    private static void hollows() {
        String wall = "good 1 100; argument 0 101";
        String bar = "good 0 100; argument -1 101";
        all(PIECE, GOOD, "hollow", "", "good 0; index -1 1 6", wall, bar);
        all("", INDEX, "hollow", "", "index 0 -1 6", wall, bar);
    }

    private static void wedges() {
        String above = "good 1 3600; argument 0 -1 3601";
        String below = "good 1 12; argument 0 -1 13";
        StringBuilder wedges = new StringBuilder("ring() = 0\n");
        for (int n = 1; n <= 15; n++) {
            wedges.append("wedge(0, 7, 3) = ").append(n).append('\n');
        }
        String one = "good 0; index -1 1 6";
        all("ring() = 0", GOOD, "wedge", "", one, above, below);
        all(wedges.toString(), GOOD, "wedge", "", one, above, below);
        all(wedges + "wedge(0, 7, 3) = 16", STATE, "wedge", "", one, above, below);
        all("", INDEX, "wedge", "", one, above, below);
        all("ring() = 0\nwedge(0, 7, 3) = 1", GOOD, "mitre", "", one, one, "good 0 1; index -1 2");
    }

    private static void fractions() {
        String part = "good 0 1; index -1 2";
        all("", GOOD, "flute", "", "good 5 1000; argument 0 -1 1001", "good 0 4; argument -1 1000", part);
        String k = "good 0 100000; argument -1 100001";
        all("", STATE, "threadAt", "", k, part);
        all("thread(0, 1) = throws.IllegalArgumentException", STATE, "threadAt", "", k, part);
        all("thread(3, 7)", GOOD, "threadAt", "", k, part);
    }

    private static void speeds() {
        StringBuilder rows = new StringBuilder();
        for (int n = 1; n <= 7; n++) {
            rows.append("row(").append(10 * n).append(", 5) = ").append(n).append('\n');
        }
        String turns = "good 1 10000; argument 0 -1 10001";
        all("", GOOD, "row", "", "good 1 500; argument 0 -1 501", turns);
        all(rows.toString(), GOOD, "row", "", "good 71 500; argument 0 69 70 501", turns);
        all(rows + "row(80, 5) = 8", STATE, "row", "", "good 81 500; argument 0 79 80 501", turns);
        String place = "good 0 9; index -1 10 64";
        all(PIECE, STATE, "speed", "", "good 0; index -1 1 6", place);
        all(PIECE + "row(1, 1) = 1", GOOD, "speed", "", "good 0; index -1 1 6", place);
        all("row(1, 1) = 1", INDEX, "speed", "", "good 0; index -1 1 6", place);
    }
}
