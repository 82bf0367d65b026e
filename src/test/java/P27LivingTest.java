/** Promise 27, living. */
public final class P27LivingTest {
    public static void main(String[] args) {
        Due.part(Due.Part.ORDINARY_USE);
        ordinaryUse();
        Due.part(Due.Part.EDGES);
        ofNoneInAll();
        firstAndLastOfEachRing();
        ringNoughtAlone();
        Due.part(Due.Part.WRONG_NUMBERS);
        noSuchRing();
        Due.endOfPromise();
    }

    private static void ordinaryUse() {
        FarBoards x = new FarBoards();
        for (int c : new int[] {0, 3, 9, 20}) x.live(c, 1);
        Due.due("27 RING 0", x.living(0), 1);
        Due.due("27 RING 1", x.living(1), 1);
        Due.due("27 RING 2", x.living(2), 2);
        Due.due("27 in all", x.living(Due.NONE), 4);
    }

    /** "BAD": RINGS 0 to r are there. */
    private static void noSuchRing() {
        for (int ring : Edges.outside(0, 2)) {
            if (ring == Due.NONE) continue;
            Twins.bad("27 RING " + ring, x -> x.living(ring));
        }
        Twins.bad("27 NONE and 1", x -> x.living(Due.NONE + 1));
        Twins.bad("27 NONE less 1", x -> x.living(Due.NONE - 1));
        for (int[] board : Edges.BOARDS) {
            FarBoards x = Edges.on(board[0], board[1]);
            Due.due("27 the outermost RING", x.living(board[1]), 0);
            Due.due("27 the one beyond", x.living(board[1] + 1), Due.BAD);
        }
    }

    /** "of NONE in all" */
    private static void ofNoneInAll() {
        Twins.asks("27 in all", x -> x.living(Due.NONE), 7);
        FarBoards x = new FarBoards();
        Due.due("27 none in all", x.living(Due.NONE), 0);
        x.steps(1, 0, 1);
        Due.due("27 all in all", x.living(Due.NONE), 29);
        Due.due("27 RING 0", x.living(0), 1);
        Due.due("27 RING 1", x.living(1), 7);
        Due.due("27 RING 2", x.living(2), 21);
    }

    /** The first and the last CELL of a RING are of that RING, and of no other. */
    private static void firstAndLastOfEachRing() {
        for (int[] board : Edges.BOARDS) {
            FarBoards x = Edges.on(board[0], board[1]);
            int first = 0;
            for (int ring = 0; ring <= board[1]; ring++) {
                int size = x.grown(board[0], ring, 0);
                int last = first + size - 1;
                x.live(first, 1);
                x.live(last, 1);
                for (int other = 0; other <= board[1]; other++) {
                    int want = other != ring ? 0 : size == 1 ? 1 : 2;
                    Due.due("27 RING " + other + ", ends of " + ring + " live", x.living(other), want);
                }
                x.live(first, 0);
                x.live(last, 0);
                first = last + 1;
            }
        }
    }

    private static void ringNoughtAlone() {
        FarBoards x = Edges.on(6, 0);
        x.live(0, 1);
        Due.due("27 alone", x.living(0), 1);
        Due.due("27 alone, in all", x.living(Due.NONE), 1);
        Due.due("27 no RING 1", x.living(1), Due.BAD);
    }
}
