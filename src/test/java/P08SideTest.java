/** Promise 8, side: SIDES that go round, EDGES, and every side of every board against the model. */
public final class P08SideTest {
    private static final int N = Due.NONE;

    public static void main(String[] args) {
        Due.part(Due.Part.ORDINARY_USE);
        ordinaryUse();
        Due.part(Due.Part.EDGES);
        roundTheFirst();
        lastOfTheFirstRing();
        firstAndLastOfARing();
        withoutOwnOnes();
        edges();
        ringNoughtAlone();
        everyBoard();
        Due.part(Due.Part.WRONG_NUMBERS);
        noSuchCell();
        noSuchSide();
        Due.endOfPromise();
    }

    private static void ordinaryUse() {
        FarBoards x = Edges.on(8, 2);
        // CELL 5 shares 24 with 4, has 25, 26, 27 as OWN ones, and shares 28 with 6.
        row("8 in RING 1", x, 5, 0, 6, 28, 27, 26, 25, 24, 4);
        row("8 an OWN one of 2", x, 14, 2, 15, N, N, N, N, N, 13);
        row("8 SHARED by 5 and 6", x, 28, 5, 6, 29, N, N, N, N, 27);
    }

    /** "BAD: CELL" */
    private static void noSuchCell() {
        for (int cell : Edges.outside(0, 18)) {
            Twins.bad("8 CELL " + cell, x -> x.side(cell, 0));
            Twins.bad("8 CELL " + cell + ", side 5", x -> x.side(cell, 5));
        }
    }

    /** "BAD: .. side": 0 to p - 1 are taken. */
    private static void noSuchSide() {
        for (int side : Edges.outside(0, 5)) {
            Twins.bad("8 side " + side + " of CELL 0", x -> x.side(0, side));
            Twins.bad("8 side " + side + " of CELL 18", x -> x.side(18, side));
        }
        for (int p = 6; p <= 10; p++) {
            FarBoards x = Edges.on(p, 1);
            Due.due("8 the last side of " + p, x.side(1, p - 1), p);
            Due.due("8 side p of " + p, x.side(1, p), Due.BAD);
            Due.due("8 side -1 of " + p, x.side(1, -1), Due.BAD);
        }
    }

    /** "of CELL 0: CELL 1, then p, p - 1, .. to 2" */
    private static void roundTheFirst() {
        for (int[] board : Edges.BOARDS) {
            FarBoards x = Edges.on(board[0], board[1]);
            for (int s = 0; s < board[0] && board[1] > 0; s++) {
                Due.due("8 side " + s + " of CELL 0", x.side(0, s), s == 0 ? 1 : board[0] + 1 - s);
            }
        }
    }

    /** "the CELL behind it in its RING", the first one behind the last; "the CELL ahead of it", the last ahead of it. */
    private static void lastOfTheFirstRing() {
        for (int p = 6; p <= 10; p++) {
            FarBoards x = Edges.on(p, 1);
            Due.due("8 behind the last one", x.side(p, 1), 1);
            Due.due("8 ahead of the last one", x.side(p, p - 1), p - 1);
            Due.due("8 behind the first one", x.side(1, 1), 2);
            Due.due("8 ahead of the first one", x.side(1, p - 1), p);
        }
    }

    /** Two PARENTS: the earlier one first; of the last CELL of a RING the last one first, then the first. */
    private static void firstAndLastOfARing() {
        FarBoards x = Edges.on(7, 3);
        row("8 first of RING 2", x, 8, 1, 9, 31, 30, 29, 84, 28);
        row("8 SHARED by 1 and 2", x, 10, 1, 2, 11, 36, 35, 34, 9);
        row("8 last of RING 2", x, 28, 7, 1, 8, 84, 83, 82, 27);
        row("8 first of RING 3", x, 29, 8, 30, N, N, N, N, 84);
        row("8 last of RING 3", x, 84, 28, 8, 29, N, N, N, 83);
        row("8 first of RING 1", x, 1, 0, 2, 10, 9, 8, 28, 7);
        row("8 last of RING 1", x, 7, 0, 1, 28, 27, 26, 25, 6);
    }

    /** With six SIDES a PAIRED one has p - 4 - 2 OWN ones, none: its two SHARED ones stand next to one another. */
    private static void withoutOwnOnes() {
        FarBoards x = Edges.on(6, 3);
        row("8 PAIRED", x, 8, 1, 2, 9, 21, 20, 7);
        row("8 PAIRED, the last one", x, 18, 6, 1, 7, 36, 35, 17);
        row("8 LONE", x, 7, 1, 8, 20, 19, 36, 18);
    }

    /** "In the outermost RING there is nothing at the sides where CHILDREN would be (EDGE: NONE)." */
    private static void edges() {
        for (int[] board : Edges.BOARDS) {
            int p = board[0];
            if (board[1] == 0) continue;
            FarBoards x = Edges.on(p, board[1]);
            for (int c : new int[] {board[2] - 1, board[2] - 2}) {
                int parents = x.cell(c, 1);
                Due.due("8 the side ahead of the EDGES", x.side(c, parents) == N ? 1 : 0, 0);
                for (int s = parents + 1; s < p - 1; s++) Due.due("8 EDGE", x.side(c, s), N);
                Due.due("8 the side behind the EDGES", x.side(c, p - 1) == N ? 1 : 0, 0);
            }
        }
    }

    private static void ringNoughtAlone() {
        for (int p = 6; p <= 10; p++) {
            FarBoards x = Edges.on(p, 0);
            for (int s = 0; s < p; s++) Due.due("8 EDGE all round", x.side(0, s), N);
            Due.due("8 side p", x.side(0, p), Due.BAD);
            Due.due("8 no CELL 1", x.side(1, 0), Due.BAD);
        }
    }

    private static void everyBoard() {
        for (int[] board : Edges.BOARDS) {
            Model m = new Model();
            m.board(board[0], board[1]);
            for (int c = 0; c < board[2]; c++) {
                FarBoards x = Edges.on(board[0], board[1]);
                for (int s = 0; s < board[0]; s++) {
                    Due.due("8 side(" + c + ", " + s + ") on " + board[0] + "/" + board[1], x.side(c, s), m.side(c, s));
                }
            }
        }
    }

    private static void row(String name, FarBoards x, int cell, int... want) {
        for (int s = 0; s < want.length; s++) Due.due(name + ", side " + s, x.side(cell, s), want[s]);
    }
}
