import java.util.EnumMap;
import java.util.Map;

/** Counts answers that are not the ones that are due, and prints each of them. */
final class Due {
    /** What the test of a promise has: where a call takes no numbers, wrong ones are such as others refuse ahead of it. */
    enum Part { ORDINARY_USE, EDGES, WRONG_NUMBERS }

    static final int NONE = -1000000, BAD = -1000001, FULL = -1000003;
    static final int NULL_FOUND = -1000011, PLACE_FOUND = -1000012, KIND_FOUND = -1000013;
    static final int SIZE_FOUND = -1000014, STORE_FOUND = -1000015;
    static final int SPENT = -1000900;

    private static int wrong = 0;
    private static int seen = 0;
    private static Part part = null;
    private static final Map<Part, Integer> SEEN_IN = new EnumMap<>(Part.class);

    /** Far above what any test takes, on a slow machine, too. */
    private static final int MOST_SECONDS = 600;

    static {
        Thread watch = new Thread(Due::endAnyway);
        watch.setDaemon(true);
        watch.start();
    }

    private Due() {
    }

    /** A call that does not end must fail its test, and not keep .ci/run waiting. */
    private static void endAnyway() {
        try {
            Thread.sleep(1000L * MOST_SECONDS);
        } catch (InterruptedException ended) {
            return;
        }
        System.out.println("a call did not end in " + MOST_SECONDS + " seconds");
        Runtime.getRuntime().halt(1);
    }

    static void due(String what, long got, long want) {
        seen++;
        if (part != null) SEEN_IN.merge(part, 1, Integer::sum);
        if (got != want) {
            wrong++;
            System.out.println(what + " answered " + got + ", due is " + want);
        }
    }

    static void holds(String what, boolean so) {
        due(what, so ? 1 : 0, 1);
    }

    /** What is due from here on is of this part. */
    static void part(Part next) {
        part = next;
    }

    static int wrong() {
        return wrong;
    }

    static void end() {
        System.out.println(seen + " answers, " + wrong + " not as due");
        if (wrong != 0 || seen == 0) {
            System.exit(1);
        }
    }

    /** The end of a promise's test: none of its parts may be without an answer. */
    static void endOfPromise() {
        part = null;
        for (Part each : Part.values()) {
            int answers = SEEN_IN.getOrDefault(each, 0);
            System.out.print(each + " " + answers + ", ");
            holds("a test of " + each, answers > 0);
        }
        end();
    }

    /** Feeds a text, eight bytes at a time. */
    static void feedAll(FarBoards x, String text) {
        for (int i = 0; i < text.length(); i += 8) {
            String part = text.substring(i, Math.min(text.length(), i + 8));
            long w = 0;
            for (int k = 0; k < part.length(); k++) {
                w = w << 8 | part.charAt(k) & 255;
            }
            x.feed(w, part.length());
        }
    }

    static int runText(FarBoards x, String text) {
        feedAll(x, text);
        return x.run();
    }
}
