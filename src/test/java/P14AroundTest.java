/** Promise 14, around: FAR 0 to 20. */
public final class P14AroundTest {
    public static void main(String[] args) {
        Due.part(Due.Part.ORDINARY_USE);
        ordinaryUse();
        Due.part(Due.Part.EDGES);
        itselfAndTheFarthest();
        ringNoughtAlone();
        allTogether();
        Due.part(Due.Part.WRONG_NUMBERS);
        noSuchCell();
        notSoFar();
        Due.endOfPromise();
    }

    private static void ordinaryUse() {
        FarBoards x = new FarBoards();
        Due.due("14 round CELL 0", x.around(0, 1), 7);
        Due.due("14 RING 2", x.around(0, 2), 21);
        Due.due("14 beside 10: 1, 2, 9, 11", x.around(10, 1), 4);
        Due.due("14 then 0, 3, 7, 8, 12, 13, 28", x.around(10, 2), 7);
    }

    /** "BAD" */
    private static void noSuchCell() {
        for (int cell : Edges.outside(0, 18)) {
            Twins.bad("14 CELL " + cell, x -> x.around(cell, 0));
            Twins.bad("14 CELL " + cell + ", n 20", x -> x.around(cell, 20));
        }
    }

    /** "FAR n (0 to 20)" */
    private static void notSoFar() {
        for (int n : Edges.outside(0, 20)) {
            Twins.bad("14 n " + n, x -> x.around(0, n));
        }
        Twins.asks("14 n 0", x -> x.around(0, 0), 1);
        Twins.asks("14 n 20", x -> x.around(0, 20), 0);
    }

    private static void itselfAndTheFarthest() {
        FarBoards x = Edges.on(6, 5);
        Due.due("14 itself", x.around(61, 0), 1);
        Due.due("14 beside a corner", x.around(61, 1), 3);
        Due.due("14 all across from a corner", x.around(61, 10), 11);
        Due.due("14 none is farther", x.around(61, 11), 0);
        Due.due("14 the outermost RING", x.around(0, 5), 30);
        Due.due("14 none beyond it", x.around(0, 6), 0);
        x.board(9, 3);
        Due.due("14 the outermost RING of nine SIDES", x.around(0, 3), 216);
        Due.due("14 none beyond that", x.around(0, 4), 0);
    }

    private static void ringNoughtAlone() {
        FarBoards x = Edges.on(7, 0);
        Due.due("14 alone", x.around(0, 0), 1);
        for (int n = 1; n <= 20; n++) Due.due("14 alone, " + n, x.around(0, n), 0);
        Due.due("14 no CELL 1", x.around(1, 0), Due.BAD);
    }

    /** Every CELL is so FAR or so FAR. */
    private static void allTogether() {
        for (int[] board : Edges.BOARDS) {
            for (int c : new int[] {0, board[2] / 2, board[2] - 1}) {
                FarBoards x = Edges.on(board[0], board[1]);
                int sum = 0;
                for (int n = 0; n <= 20; n++) sum += x.around(c, n);
                Due.due("14 all of " + board[0] + "/" + board[1] + " around " + c, sum, board[2]);
            }
        }
    }
}
