import java.util.Arrays;
import java.util.Map;
import java.util.Random;
import java.util.TreeMap;

/** All promises: runs of 512 calls, each answer beside that of PlainLathe. The seeds are written down. */
public final class PlainLatheTest {
    private static final int RUNS = 400;
    private static final int CALLS = 512;
    private static final int[] WILD = {Integer.MIN_VALUE, Integer.MAX_VALUE, -1, 0, 1, 2, 6, 1 << 30};
    private static final String[] NAMES = {
        "start", "line", "line", "line", "arc", "arc", "arc", "arc", "turn", "radius", "about", "tool", "reached",
        "left", "passes", "cut", "steady", "volume", "hollow", "copy", "ring", "wedge", "wedge", "wedge", "mitre",
        "gap", "closes", "flute", "thread", "threadAt", "row", "speed",
    };
    private static final Map<String, Integer> GOOD = new TreeMap<>();

    private final Random random;
    private final LathePieces made = new LathePieces();
    private final PlainLathe plain = new PlainLathe();
    /** Where the profile ends, as far as the drawing of likely arguments needs it. */
    private int lastPlace;
    private int lastRadius;

    private PlainLatheTest(long seed) {
        random = new Random(seed);
    }

    public static void main(String[] args) {
        for (int seed = 0; seed < RUNS; seed++) {
            new PlainLatheTest(seed).run(seed);
        }
        for (String name : NAMES) {
            Script.check(GOOD.getOrDefault(name, 0) > 100, "hardly ever answered: " + name);
        }
        Script.finish();
    }

    private void run(int seed) {
        for (int n = 0; n < CALLS; n++) {
            String name = NAMES[random.nextInt(NAMES.length)];
            int[] numbers = arguments(name);
            for (int i = 0; i < numbers.length; i++) {
                if (random.nextInt(25) == 0) {
                    numbers[i] = WILD[random.nextInt(WILD.length)];
                }
            }
            boolean upper = random.nextBoolean();
            String got = Script.answer(made, name, boxed(name, numbers, upper));
            String due = plain.answer(name, numbers, upper);
            note(name, numbers, due);
            Script.check(got.equals(due), "seed " + seed + ", call " + n + ": " + name
                    + Arrays.toString(numbers) + " " + upper + " answered " + got + ", due is " + due);
        }
    }

    private void note(String name, int[] numbers, String due) {
        if (due.startsWith("throws.")) {
            return;
        }
        if (!due.equals("false") || name.equals("closes")) {
            GOOD.merge(name, 1, Integer::sum);
        }
        if (name.equals("start")) {
            lastPlace = 0;
            lastRadius = numbers[0];
        } else if (name.equals("line") || name.equals("arc") && due.equals("true")) {
            lastPlace = numbers[0];
            lastRadius = numbers[1];
        }
    }

    private static Object[] boxed(String name, int[] numbers, boolean upper) {
        boolean truth = name.equals("arc") || name.equals("volume");
        Object[] values = new Object[numbers.length + (truth ? 1 : 0)];
        for (int i = 0; i < numbers.length; i++) {
            values[i] = numbers[i];
        }
        if (truth) {
            values[numbers.length] = upper;
        }
        return values;
    }

    /** From least to most, and at times one beyond. */
    private int near(int least, int most) {
        if (random.nextInt(30) == 0) {
            return random.nextBoolean() ? least - 1 : most + 1;
        }
        if (random.nextInt(12) == 0) {
            return random.nextBoolean() ? least : most;
        }
        return least + random.nextInt(most - least + 1);
    }

    private int few(int many, int few) {
        return random.nextBoolean() ? many : few;
    }

    private int piece() {
        return near(0, random.nextInt(4) == 0 ? 5 : 2);
    }

    private int place() {
        return near(0, random.nextInt(3) == 0 ? 64 : 12);
    }

    private int someRadius() {
        return near(0, random.nextBoolean() ? 500 : 40);
    }

    private int nextPlace() {
        return random.nextInt(10) == 0 ? near(1, 64) : lastPlace + 1 + random.nextInt(12);
    }

    /** Mostly arcs whose ends fit: alike about the centre, or with a known triangle's sides. */
    private int[] arcArguments() {
        int[][] triangles = {{3, 4, 5, 0}, {5, 12, 13, 0}, {12, 5, 13, 0}, {4, 3, 5, 0}, {8, 6, 10, 0}, {6, 8, 0, 10}};
        int way = random.nextInt(4);
        if (way == 0) {
            return new int[] {nextPlace(), someRadius(), near(-200, 300), near(-1000, 1500)};
        }
        if (way == 1) {
            int[] t = triangles[random.nextInt(triangles.length)];
            int sign = random.nextBoolean() ? 1 : -1;
            int c = lastPlace + t[0];
            int h = lastRadius - sign * t[1];
            return new int[] {c + t[3], h + sign * t[2], c, h};
        }
        int half = 1 + random.nextInt(way == 2 ? 6 : 31);
        int h = random.nextInt(5) == 0 ? near(-1000, 1500) : lastRadius + random.nextInt(41) - 20;
        return new int[] {lastPlace + 2 * half, lastRadius, lastPlace + half, h};
    }

    private int[] arguments(String name) {
        switch (name) {
            case "start": return new int[] {someRadius()};
            case "line": return new int[] {nextPlace(), someRadius()};
            case "arc": return arcArguments();
            case "turn": case "ring": return new int[0];
            case "radius": case "speed": return new int[] {piece(), place()};
            case "about": return new int[] {piece(), near(0, 2)};
            case "tool": return new int[] {near(0, 12)};
            case "reached": return new int[] {piece(), piece(), place()};
            case "left": case "copy": return new int[] {piece(), piece()};
            case "passes": return new int[] {piece(), piece(), near(1, 100), near(0, 50)};
            case "cut": return new int[] {piece(), piece(), near(1, few(100, 5)), near(0, 50), near(1, 12)};
            case "steady": return new int[] {piece(), near(1, random.nextInt(3) == 0 ? 500 : 20), near(0, 6)};
            case "volume": return new int[] {piece()};
            case "hollow": return new int[] {piece(), near(1, few(100, 9)), near(0, few(100, 9))};
            case "wedge": return random.nextInt(3) == 0
                    ? new int[] {piece(), near(1, 3600), near(1, 12)}
                    : new int[] {piece(), 30 * near(1, 12), near(1, 4)};
            case "mitre": return new int[] {piece(), near(0, 8), near(0, 1)};
            case "gap": return new int[] {piece(), near(0, 1)};
            case "closes": return new int[] {piece()};
            case "flute": return new int[] {near(1, few(1000, 20)), near(0, 19), near(0, 1)};
            case "thread": return new int[] {near(1, 1000), near(1, 1000)};
            case "threadAt": return new int[] {near(0, 100000), near(0, 1)};
            case "row": return new int[] {near(1, 500), near(1, 10000)};
            default: throw new IllegalArgumentException(name);
        }
    }
}
