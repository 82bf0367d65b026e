/** Promise 23, coloured: the first 1 to 16 CELLS, 1 to 4 colours. */
public final class P23ColouredTest {
    public static void main(String[] args) {
        Due.part(Due.Part.ORDINARY_USE);
        ordinaryUse();
        Due.part(Due.Part.EDGES);
        oneCell();
        noWayAtAll();
        wheels();
        colouredOrNotTheBoard();
        everyBoard();
        Due.part(Due.Part.WRONG_NUMBERS);
        noSuchNumberOfCells();
        moreThanThereAre();
        noSuchNumberOfColours();
        Due.endOfPromise();
    }

    private static void ordinaryUse() {
        FarBoards x = new FarBoards();
        // CELL 1 is beside 0; 2 beside 0 and 1; 3 beside 0 and 2.
        Due.due("23 four CELLS of four colours", x.coloured(4, 4), 4 * 3 * 2 * 2);
        Due.due("23 four CELLS of three colours", x.coloured(4, 3), 3 * 2);
        Due.due("23 four CELLS of two colours", x.coloured(4, 2), 0);
        // CELL 8 is beside 1 alone, 9 beside 1 and 8.
        Due.due("23 ten CELLS of four colours", x.coloured(10, 4), 504 * 3 * 2);
    }

    /** "BAD: m": the first m CELLS (1 to 16). */
    private static void noSuchNumberOfCells() {
        for (int m : Edges.outside(1, 16)) {
            Twins.bad("23 m " + m, x -> x.coloured(m, 4));
        }
        Twins.asks("23 m 1", x -> x.coloured(1, 4), 4);
        Due.due("23 m 16", new FarBoards().coloured(16, 4), 84864);
    }

    /** "(or more than there are)" */
    private static void moreThanThereAre() {
        for (int[] board : Edges.BOARDS) {
            if (board[2] >= 16) continue;
            FarBoards x = Edges.on(board[0], board[1]);
            String on = " on " + board[0] + "/" + board[1];
            Due.holds("23 as many as there are" + on, x.coloured(board[2], 4) > 0);
            for (int m = board[2] + 1; m <= 17; m++) Due.due("23 m " + m + on, x.coloured(m, 4), Due.BAD);
        }
    }

    /** "k colours (1 to 4)" */
    private static void noSuchNumberOfColours() {
        for (int k : Edges.outside(1, 4)) {
            Twins.bad("23 k " + k, x -> x.coloured(3, k));
        }
        Twins.bad("23 both", x -> x.coloured(0, 0));
    }

    private static void oneCell() {
        for (int k = 1; k <= 4; k++) {
            Due.due("23 one CELL of " + k, Edges.on(6, 0).coloured(1, k), k);
            Due.due("23 the first CELL of " + k, new FarBoards().coloured(1, k), k);
            Due.due("23 two CELLS of " + k, new FarBoards().coloured(2, k), k * (k - 1));
        }
    }

    /** None at all is an answer, 0, and not a refusal. */
    private static void noWayAtAll() {
        FarBoards x = new FarBoards();
        Due.due("23 two CELLS of one colour", x.coloured(2, 1), 0);
        Due.due("23 three CELLS of two colours", x.coloured(3, 2), 0);
        Due.due("23 seven round one of three colours", x.coloured(8, 3), 0);
        Due.due("23 sixteen of one colour", x.coloured(16, 1), 0);
    }

    /** A RING round CELL 0 of k colours: k times ((k - 2) to the p and, p even, k - 2 more, else less). */
    private static void wheels() {
        for (int p = 6; p <= 10; p++) {
            FarBoards x = Edges.on(p, 1);
            int sign = p % 2 == 0 ? 1 : -1;
            Due.due("23 three colours round, p " + p, x.coloured(p + 1, 3), 3 * (1 + sign));
            Due.due("23 four colours round, p " + p, x.coloured(p + 1, 4), 4 * ((1 << p) + 2 * sign));
            Due.due("23 all but the last one", x.coloured(p, 4), 4 * 3 << p - 2);
        }
    }

    /** How THE BOARD is coloured is not asked. */
    private static void colouredOrNotTheBoard() {
        FarBoards x = new FarBoards();
        for (int c = 0; c < 29; c++) x.paint(c, c % 2 == 0 ? Due.NONE : 3);
        Due.due("23 rubbed or not", x.coloured(8, 4), 504);
    }

    private static void everyBoard() {
        for (int[] board : Edges.BOARDS) {
            Model model = new Model();
            model.board(board[0], board[1]);
            FarBoards x = Edges.on(board[0], board[1]);
            for (int m = 1; m <= Math.min(16, board[2]); m++) {
                for (int k = 1; k <= 4; k++) {
                    String of = "(" + m + ", " + k + ") on " + board[0] + "/" + board[1];
                    Due.due("23 coloured" + of, x.coloured(m, k), model.coloured(m, k));
                }
            }
        }
    }
}
