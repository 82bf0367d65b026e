/** Promise 24, found. */
public final class P24FoundTest {
    public static void main(String[] args) {
        Due.part(Due.Part.ORDINARY_USE);
        ordinaryUse();
        Due.part(Due.Part.EDGES);
        noneAtAll();
        noneLeavesNothing();
        firstAsARow();
        everyBoard();
        Due.part(Due.Part.WRONG_NUMBERS);
        noSuchNumberOfCells();
        noSuchNumberOfColours();
        noSuchCell();
        badAheadOfNone();
        Due.endOfPromise();
    }

    private static void ordinaryUse() {
        FarBoards x = new FarBoards();
        row(x, 4, 4, 0, 1, 2, 1);
        row(x, 10, 4, 0, 1, 2, 1, 2, 1, 2, 3, 0, 2);
    }

    /** "BAD: m" */
    private static void noSuchNumberOfCells() {
        for (int m : Edges.outside(1, 16)) {
            Twins.bad("24 m " + m, x -> x.found(m, 4, 0));
        }
        for (int[] board : Edges.BOARDS) {
            if (board[2] >= 16) continue;
            FarBoards x = Edges.on(board[0], board[1]);
            String on = " on " + board[0] + "/" + board[1];
            Due.holds("24 as many as there are" + on, x.found(board[2], 4, board[2] - 1) >= 0);
            for (int m = board[2] + 1; m <= 17; m++) Due.due("24 m " + m + on, x.found(m, 4, 0), Due.BAD);
        }
    }

    /** "BAD: .. k" */
    private static void noSuchNumberOfColours() {
        for (int k : Edges.outside(1, 4)) {
            Twins.bad("24 k " + k, x -> x.found(3, k, 0));
        }
    }

    /** "BAD: .. i": CELL i is one of the first m. */
    private static void noSuchCell() {
        for (int i : Edges.outside(0, 2)) Twins.bad("24 i " + i + " of three", x -> x.found(3, 4, i));
        for (int i : Edges.outside(0, 15)) Twins.bad("24 i " + i + " of sixteen", x -> x.found(16, 4, i));
        for (int i : Edges.outside(0, 0)) Twins.bad("24 i " + i + " of one", x -> x.found(1, 1, i));
        Twins.asks("24 the last one of three", x -> x.found(3, 4, 2), 2);
        Due.due("24 the last one of sixteen", new FarBoards().found(16, 4, 15), 2);
    }

    /** "NONE: there is none." */
    private static void noneAtAll() {
        for (int i = 0; i < 8; i++) Due.due("24 none, CELL " + i, new FarBoards().found(8, 3, i), Due.NONE);
        FarBoards x = new FarBoards();
        Due.due("24 two of one colour", x.found(2, 1, 0), Due.NONE);
        Due.due("24 the other of them", x.found(2, 1, 1), Due.NONE);
        Due.due("24 three of two colours", x.found(3, 2, 2), Due.NONE);
        Due.due("24 one of one colour", x.found(1, 1, 0), 0);
        Due.due("24 two of two colours", x.found(2, 2, 1), 1);
    }

    /** What was tried where there is none is not there any more for what is asked next. */
    private static void noneLeavesNothing() {
        FarBoards x = new FarBoards();
        Due.due("24 none", x.found(8, 3, 0), Due.NONE);
        Due.due("24 one behind it", x.found(1, 1, 0), 0);
        Due.due("24 none again", x.found(8, 3, 7), Due.NONE);
        row(x, 8, 4, 0, 1, 2, 1, 2, 1, 2, 3);
        Due.due("24 counting ahead of it", x.coloured(16, 4), 84864);
        row(x, 3, 4, 0, 1, 2);
    }

    private static void badAheadOfNone() {
        FarBoards x = new FarBoards();
        Due.due("24 no such CELL, and none", x.found(3, 1, 3), Due.BAD);
        Due.due("24 below, and none", x.found(3, 1, -1), Due.BAD);
        Due.due("24 m above, and none", x.found(17, 1, 0), Due.BAD);
    }

    /** "of these the first as a row (CELL 0 the least, then CELL 1, ..)" */
    private static void firstAsARow() {
        FarBoards x = new FarBoards();
        row(x, 8, 4, 0, 1, 2, 1, 2, 1, 2, 3);
        row(x, 7, 4, 0, 1, 2, 1, 2, 1, 2);
        row(x, 7, 3, 0, 1, 2, 1, 2, 1, 2);
        x.board(6, 1);
        row(x, 7, 3, 0, 1, 2, 1, 2, 1, 2);
        x.board(9, 1);
        row(x, 10, 4, 0, 1, 2, 1, 2, 1, 2, 1, 2, 3);
    }

    private static void row(FarBoards x, int m, int k, int... want) {
        for (int i = 0; i < m; i++) Due.due("24 found(" + m + ", " + k + ", " + i + ")", x.found(m, k, i), want[i]);
    }

    private static void everyBoard() {
        for (int[] board : Edges.BOARDS) {
            Model model = new Model();
            model.board(board[0], board[1]);
            for (int k = 1; k <= 4; k++) {
                FarBoards x = Edges.on(board[0], board[1]);
                for (int m = 1; m <= Math.min(16, board[2]); m++) {
                    for (int i = 0; i < m; i += m > 8 ? 4 : 1) {
                        String of = "(" + m + ", " + k + ", " + i + ") on " + board[0] + "/" + board[1];
                        Due.due("24 found" + of, x.found(m, k, i), model.found(m, k, i));
                    }
                    Due.due("24 the last one of " + m, x.found(m, k, m - 1), model.found(m, k, m - 1));
                }
            }
        }
    }
}
