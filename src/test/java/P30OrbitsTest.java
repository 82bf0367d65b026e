/** Promise 30, orbits. */
public final class P30OrbitsTest {
    public static void main(String[] args) {
        Due.part(Due.Part.ORDINARY_USE);
        ordinaryUse();
        Due.part(Due.Part.EDGES);
        ringNought();
        everyRing();
        Due.part(Due.Part.WRONG_NUMBERS);
        noSuchRing();
        Due.endOfPromise();
    }

    private static void ordinaryUse() {
        FarBoards x = Edges.on(8, 2);
        Due.due("30 CELL 0", x.orbits(0), 1);
        Due.due("30 and RING 1", x.orbits(1), 2);
        Due.due("30 and four sets of eight in RING 2", x.orbits(2), 6);
    }

    /** "BAD.": RINGS 0 to r are there. */
    private static void noSuchRing() {
        for (int m : Edges.outside(0, 2)) {
            Twins.bad("30 m " + m, x -> x.orbits(m));
        }
        for (int[] board : Edges.BOARDS) {
            Due.due("30 the RING beyond the outermost", Edges.on(board[0], board[1]).orbits(board[1] + 1), Due.BAD);
        }
    }

    private static void ringNought() {
        for (int[] board : Edges.BOARDS) Due.due("30 RING 0", Edges.on(board[0], board[1]).orbits(0), 1);
        Twins.asks("30 RINGS 0 to 1", x -> x.orbits(1), 2);
        Twins.asks("30 RINGS 0 to 2", x -> x.orbits(2), 4);
    }

    /** "how many sets of CELLS that TURNS take into one another": CELL 0, and a p-th of all others. */
    private static void everyRing() {
        for (int[] board : Edges.BOARDS) {
            Model m = new Model();
            m.board(board[0], board[1]);
            FarBoards x = Edges.on(board[0], board[1]);
            for (int ring = 0; ring <= board[1]; ring++) {
                Due.due("30 orbits(" + ring + ") on " + board[0] + "/" + board[1], x.orbits(ring), m.orbits(ring));
            }
            Due.due("30 of all CELLS", x.orbits(board[1]), 1 + (board[2] - 1) / board[0]);
        }
    }
}
