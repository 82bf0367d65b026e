/** Promise 17, feed: 1 to 8 bytes at a time, 300 on the tape. */
public final class P17FeedTest {
    private static final long BLANKS = 0x2020_2020_2020_2020L;

    public static void main(String[] args) {
        Due.part(Due.Part.ORDINARY_USE);
        ordinaryUse();
        Due.part(Due.Part.EDGES);
        fromOneByteToEight();
        highestFirst();
        onlyTheLowest();
        upToTheEnd();
        againWhenEmpty();
        Due.part(Due.Part.WRONG_NUMBERS);
        noSuchNumberOfBytes();
        fullByEach();
        refusalsInOrder();
        Due.endOfPromise();
    }

    private static void ordinaryUse() {
        FarBoards x = new FarBoards();
        Due.due("17 f", x.feed('f', 1), 1);
        Due.due("17 l, r", x.feed('l' << 8 | 'r', 2), 3);
        Due.due("17 on the tape", x.count(8), 3);
        Due.due("17 three acts", x.run(), 3);
        Due.due("17 one step", x.mouse(0), 1);
        Due.due("17 on an empty tape", x.feed('b', 1), 1);
    }

    /** "BAD: n" */
    private static void noSuchNumberOfBytes() {
        for (int n : Edges.outside(1, 8)) {
            Twins.bad("17 n " + n, x -> x.feed(0x6666_6666_6666_6666L, n));
        }
    }

    /** "The lowest n bytes of w (1 to 8) .. come behind the tape: how many it has." */
    private static void fromOneByteToEight() {
        FarBoards x = new FarBoards();
        int has = 0;
        for (int n = 1; n <= 8; n++) {
            has += n;
            Due.due("17 n " + n, x.feed(0x7272_7272_7272_7272L, n), has);
            Due.due("17 n " + n + ", told again", x.count(8), has);
        }
        Due.due("17 all of them came", x.run(), 36);
        Due.due("17 as they were told", x.mouse(1), 36 % 7);
    }

    /** "the highest of them first": the place of a FAULT tells which byte came where. */
    private static void highestFirst() {
        for (int n = 1; n <= 8; n++) {
            for (int k = 0; k < n; k++) {
                FarBoards x = new FarBoards();
                // A byte x among letters r, k bytes from the lowest one.
                long w = 0x7272_7272_7272_7272L ^ (0x72L ^ 0x78L) << 8 * k;
                Due.due("17 n " + n, x.feed(w, n), n);
                Due.due("17 byte " + k + " of " + n, x.run(), -1000100 - (n - 1 - k));
            }
        }
    }

    /** What is above the lowest n does not come; the highest bit of w is nothing special. */
    private static void onlyTheLowest() {
        for (int n = 1; n <= 7; n++) {
            FarBoards x = new FarBoards();
            long w = -1L << 8 * n | 0x0072_7272_7272_7272L & ~(-1L << 8 * n);
            Due.due("17 the lowest " + n, x.feed(w, n), n);
            Due.due("17 are letters", x.run(), n);
        }
        FarBoards x = new FarBoards();
        x.feed(Long.MIN_VALUE | 0x7272_7272_7272_7272L, 8);
        Due.due("17 byte 242 is no letter", x.run(), -1000100);
        x.feed(-1L, 8);
        Due.due("17 byte 255 is none", x.run(), -1000100);
        x.feed(0x6600L, 1);
        Due.due("17 byte 0 is none", x.run(), -1000100);
    }

    /** "THE TAPE has at most 300 bytes" */
    private static void upToTheEnd() {
        FarBoards x = Edges.fed(292, "");
        Due.due("17 eight up to the end", x.feed(0x2020_2020_2020_2066L, 8), 300);
        Due.due("17 not one more", x.feed('f', 1), Due.FULL);
        Due.due("17 not eight more", x.feed(BLANKS, 8), Due.FULL);
        Due.due("17 it has 300", x.count(8), 300);
        Due.due("17 the last one is done", x.run(), 1);
        FarBoards y = new FarBoards();
        for (int i = 1; i <= 300; i++) Due.due("17 one by one", y.feed('r', 1), i);
        Due.due("17 the 301st", y.feed('r', 1), Due.FULL);
        Due.due("17 300 acts", y.run(), 300);
        Due.due("17 each of them done", y.mouse(1), 300 % 7);
    }

    /** "FULL: none comes." */
    private static void fullByEach() {
        for (int n = 1; n <= 8; n++) {
            int bytes = n;
            Twins.full("17 one too many of " + n, x -> staged(x, 301 - bytes), x -> x.feed(0x6666_6666_6666_6666L, bytes));
            FarBoards x = Edges.fed(300 - n, "");
            Due.due("17 just as many as there is room for", x.feed(0x7272_7272_7272_7272L, n), 300);
            Due.due("17 they are done", x.run(), n);
        }
    }

    private static void staged(FarBoards x, int bytes) {
        Twins.stage(x);
        Due.feedAll(x, " ".repeat(bytes - x.count(8)));
    }

    /** BAD ahead of FULL. */
    private static void refusalsInOrder() {
        for (int n : new int[] {-1, 0, 9, Integer.MAX_VALUE, Integer.MIN_VALUE}) {
            Twins.bad("17 n " + n + " on a full tape", x -> staged(x, 300), x -> x.feed(BLANKS, n));
        }
    }

    private static void againWhenEmpty() {
        FarBoards x = Edges.fed(300, "");
        Due.due("17 FULL", x.feed(' ', 1), Due.FULL);
        Due.due("17 read", x.run(), 0);
        Due.due("17 from the first on again", x.feed(BLANKS, 8), 8);
        x.run();
        Due.feedAll(x, " ".repeat(299));
        x.feed('x', 1);
        Due.due("17 behind what is on it", x.run(), -1000100 - 299);
    }
}
