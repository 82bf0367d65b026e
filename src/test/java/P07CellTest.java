/** Promise 7, cell: the first and the last CELLS of RINGS, and every CELL of every board against the model. */
public final class P07CellTest {
    public static void main(String[] args) {
        Due.part(Due.Part.ORDINARY_USE);
        ordinaryUse();
        Due.part(Due.Part.EDGES);
        firstCell();
        firstRing();
        firstAndLastOfARing();
        roundTheRing();
        everyBoard();
        Due.part(Due.Part.WRONG_NUMBERS);
        noSuchCell();
        noSuchQuestion();
        Due.endOfPromise();
    }

    private static void ordinaryUse() {
        FarBoards x = Edges.on(8, 2);
        row("7 in RING 1", x, 5, 1, 1, 0, Due.NONE, 4, 8);
        // CELL 1 has 9, 10, 11 as OWN ones and shares 12 with 2; CELL 2 has 13, 14, 15.
        row("7 the second OWN one of 2", x, 14, 2, 1, 2, Due.NONE, 5, 3);
        row("7 SHARED by 5 and 6", x, 28, 2, 2, 5, 6, 19, 4);
    }

    /** "BAD" */
    private static void noSuchCell() {
        for (int cell : Edges.outside(0, 18)) {
            for (int what = 0; what <= 5; what++) {
                int asked = what;
                Twins.bad("7 CELL " + cell + ", " + what, x -> x.cell(cell, asked));
            }
        }
        for (int[] board : Edges.BOARDS) {
            FarBoards x = Edges.on(board[0], board[1]);
            Due.due("7 the last CELL", x.cell(board[2] - 1, 0), board[1]);
            Due.due("7 the first one that is not there", x.cell(board[2], 0), Due.BAD);
        }
    }

    private static void noSuchQuestion() {
        for (int what : Edges.outside(0, 5)) {
            Twins.bad("7 what " + what, x -> x.cell(0, what));
        }
    }

    /** "RING 0 is CELL 0, with no PARENTS." */
    private static void firstCell() {
        for (int[] board : Edges.BOARDS) {
            FarBoards x = Edges.on(board[0], board[1]);
            row("7 CELL 0", x, 0, 0, 0, Due.NONE, Due.NONE, 0, board[1] == 0 ? 0 : board[0]);
        }
    }

    /** "RING 1: p CELLS, 1 .. p, round the first one; its one PARENT is that." */
    private static void firstRing() {
        for (int p = 6; p <= 10; p++) {
            FarBoards x = Edges.on(p, 1);
            row("7 CELL 1", x, 1, 1, 1, 0, Due.NONE, 0, 3);
            row("7 CELL p", x, p, 1, 1, 0, Due.NONE, p - 1, 3);
            x.board(p, 2);
            row("7 CELL 1 with CHILDREN", x, 1, 1, 1, 0, Due.NONE, 0, p);
            row("7 CELL p with CHILDREN", x, p, 1, 1, 0, Due.NONE, p - 1, p);
        }
    }

    /** The first CELL of RING 2 is an OWN one of the first, the last one is SHARED by the last and the first. */
    private static void firstAndLastOfARing() {
        for (int p = 6; p <= 10; p++) {
            FarBoards x = Edges.on(p, 2);
            int size = p * (p - 4);
            row("7 first of RING 2", x, p + 1, 2, 1, 1, Due.NONE, 0, 3);
            row("7 last of RING 2", x, p + size, 2, 2, p, 1, size - 1, 4);
            row("7 the last OWN one of CELL 1", x, p + p - 5, 2, 1, 1, Due.NONE, p - 6, 3);
            row("7 SHARED by 1 and 2", x, p + p - 4, 2, 2, 1, 2, p - 5, 4);
            row("7 the first OWN one of CELL 2", x, p + p - 3, 2, 1, 2, Due.NONE, p - 4, 3);
        }
    }

    /** In RING 3 a PAIRED one has an OWN one less: with six SIDES it has none. */
    private static void roundTheRing() {
        FarBoards x = Edges.on(6, 3);
        row("7 first of RING 3", x, 19, 3, 1, 7, Due.NONE, 0, 3);
        row("7 SHARED by 7 and 8", x, 20, 3, 2, 7, 8, 1, 4);
        row("7 SHARED by 8 and 9", x, 21, 3, 2, 8, 9, 2, 4);
        row("7 OWN one of 9", x, 22, 3, 1, 9, Due.NONE, 3, 3);
        row("7 last of RING 3", x, 36, 3, 2, 18, 7, 17, 4);
        x.board(7, 3);
        row("7 last of RING 3 of seven SIDES", x, 84, 3, 2, 28, 8, 55, 4);
    }

    private static void everyBoard() {
        for (int[] board : Edges.BOARDS) {
            Model m = new Model();
            m.board(board[0], board[1]);
            for (int c = 0; c < board[2]; c++) {
                FarBoards x = Edges.on(board[0], board[1]);
                for (int what = 0; what <= 5; what++) {
                    Due.due("7 cell(" + c + ", " + what + ") on " + board[0] + "/" + board[1], x.cell(c, what),
                        m.cell(c, what));
                }
            }
        }
    }

    private static void row(String name, FarBoards x, int cell, int... want) {
        for (int what = 0; what < want.length; what++) {
            Due.due(name + ", " + what + " of " + x.count(3) + " SIDES", x.cell(cell, what), want[what]);
        }
    }
}
