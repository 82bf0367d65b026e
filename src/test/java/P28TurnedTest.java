/** Promise 28, turned: 0 to p - 1 p-th parts, round. */
public final class P28TurnedTest {
    public static void main(String[] args) {
        Due.part(Due.Part.ORDINARY_USE);
        ordinaryUse();
        Due.part(Due.Part.EDGES);
        firstStays();
        byNothing();
        roundTheRing();
        ringNoughtAlone();
        everyBoard();
        Due.part(Due.Part.WRONG_NUMBERS);
        noSuchCell();
        noSuchTurn();
        Due.endOfPromise();
    }

    private static void ordinaryUse() {
        FarBoards x = Edges.on(8, 2);
        Due.due("28 three places on", x.turned(1, 3), 4);
        // RING 2 is CELLS 9 to 40, four of them an eighth.
        Due.due("28 twelve places on", x.turned(9, 3), 21);
        Due.due("28 eight places on, round", x.turned(38, 2), 14);
    }

    /** "BAD." */
    private static void noSuchCell() {
        for (int cell : Edges.outside(0, 18)) {
            Twins.bad("28 CELL " + cell, x -> x.turned(cell, 0));
            Twins.bad("28 CELL " + cell + ", t 5", x -> x.turned(cell, 5));
        }
    }

    /** "TURNED by t (0 to p - 1)" */
    private static void noSuchTurn() {
        for (int t : Edges.outside(0, 5)) {
            Twins.bad("28 t " + t, x -> x.turned(1, t));
            Twins.bad("28 t " + t + " of CELL 0", x -> x.turned(0, t));
        }
        for (int p = 6; p <= 10; p++) {
            FarBoards x = Edges.on(p, 1);
            Due.due("28 t p - 1", x.turned(1, p - 1), p);
            Due.due("28 t p", x.turned(1, p), Due.BAD);
        }
    }

    /** "CELL 0 stays" */
    private static void firstStays() {
        for (int[] board : Edges.BOARDS) {
            FarBoards x = Edges.on(board[0], board[1]);
            for (int t = 0; t < board[0]; t++) Due.due("28 CELL 0 by " + t, x.turned(0, t), 0);
        }
    }

    private static void byNothing() {
        for (int c = 0; c < 19; c++) {
            int cell = c;
            Twins.asks("28 CELL " + c + " by 0", x -> x.turned(cell, 0), c);
        }
    }

    /** "so many places further on (round)" */
    private static void roundTheRing() {
        FarBoards x = new FarBoards();
        Due.due("28 one on", x.turned(1, 1), 2);
        Due.due("28 the last of RING 1, round", x.turned(7, 1), 1);
        Due.due("28 the first of RING 1, all but round", x.turned(1, 6), 7);
        Due.due("28 three places on", x.turned(8, 1), 11);
        Due.due("28 to the last part", x.turned(10, 6), 28);
        Due.due("28 from the last part, round", x.turned(26, 1), 8);
        Due.due("28 the last of RING 2, round", x.turned(28, 1), 10);
        Due.due("28 the last of RING 2, all but round", x.turned(28, 6), 25);
        Due.due("28 up to the end", x.turned(25, 1), 28);
        x.board(9, 3);
        Due.due("28 the last CELL of the largest board", x.turned(270, 8), 246);
        Due.due("28 its first one", x.turned(55, 8), 247);
    }

    private static void ringNoughtAlone() {
        for (int p = 6; p <= 10; p++) {
            FarBoards x = Edges.on(p, 0);
            for (int t = 0; t < p; t++) Due.due("28 alone", x.turned(0, t), 0);
            Due.due("28 alone, t p", x.turned(0, p), Due.BAD);
            Due.due("28 no CELL 1", x.turned(1, 0), Due.BAD);
        }
    }

    private static void everyBoard() {
        for (int[] board : Edges.BOARDS) {
            Model m = new Model();
            m.board(board[0], board[1]);
            for (int c = 0; c < board[2]; c++) {
                FarBoards x = Edges.on(board[0], board[1]);
                for (int t = 0; t < board[0]; t++) {
                    String of = "(" + c + ", " + t + ") on " + board[0] + "/" + board[1];
                    Due.due("28 turned" + of, x.turned(c, t), m.turned(c, t));
                }
            }
        }
    }
}
