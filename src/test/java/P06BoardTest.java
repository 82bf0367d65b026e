/** Promise 6, board: six to ten SIDES, none to five RINGS, no more than 400 CELLS. */
public final class P06BoardTest {
    public static void main(String[] args) {
        Due.part(Due.Part.ORDINARY_USE);
        ordinaryUse();
        Due.part(Due.Part.EDGES);
        howManyCells();
        asAtFirst();
        nothingIsLeftOver();
        manyBoardsOneAfterAnother();
        ringNoughtAlone();
        Due.part(Due.Part.WRONG_NUMBERS);
        noSuchSides();
        noSuchRings();
        moreThanMost();
        refusalsInOrder();
        Due.endOfPromise();
    }

    private static void ordinaryUse() {
        FarBoards x = new FarBoards();
        // RING 1 has 8; each of these has 8 - 4 - 1 OWN ones and one SHARED one: 32.
        Due.due("6 eight SIDES, two RINGS", x.board(8, 2), 1 + 8 + 32);
        Due.due("6 SIDES", x.count(3), 8);
        Due.due("6 RINGS", x.count(2), 2);
        Due.due("6 CELLS", x.count(1), 41);
        Due.due("6 six SIDES, three RINGS", x.board(6, 3), 1 + 6 + 12 + 18);
        Due.due("6 CELLS then", x.count(1), 37);
    }

    /** "THE BOARD of p SIDES (6 to 10 ..), RINGS r (0 to 5 ..), no more than 400 CELLS." */
    private static void howManyCells() {
        for (int[] board : Edges.BOARDS) {
            FarBoards x = new FarBoards();
            String of = "6 board(" + board[0] + ", " + board[1] + ")";
            Due.due(of, x.board(board[0], board[1]), board[2]);
            Due.due(of + " SIDES", x.count(3), board[0]);
            Due.due(of + " RINGS", x.count(2), board[1]);
            Due.due(of + " CELLS", x.count(1), board[2]);
            Due.due(of + " the last CELL", x.cell(board[2] - 1, 0), board[1]);
            Due.due(of + " none behind it", x.cell(board[2], 0), Due.BAD);
        }
        Due.due("6 every board is one or the other", Edges.BOARDS.length + Edges.TOO_LARGE.length, 30);
    }

    /** "BAD: p" */
    private static void noSuchSides() {
        for (int p : Edges.outside(6, 10)) {
            Twins.bad("6 p " + p, x -> x.board(p, 1));
            Twins.bad("6 p " + p + ", RING 0 alone", x -> x.board(p, 0));
        }
    }

    /** "BAD: .. r" */
    private static void noSuchRings() {
        for (int r : Edges.outside(0, 5)) {
            Twins.bad("6 r " + r, x -> x.board(6, r));
        }
    }

    /** "FULL: more than 400." */
    private static void moreThanMost() {
        for (int[] board : Edges.TOO_LARGE) {
            String of = "6 board(" + board[0] + ", " + board[1] + ")";
            Twins.full(of, Twins::stage, x -> x.board(board[0], board[1]));
        }
    }

    /** BAD ahead of FULL. */
    private static void refusalsInOrder() {
        Twins.bad("6 too many SIDES, too many CELLS", x -> x.board(11, 5));
        Twins.bad("6 too many RINGS, too many CELLS", x -> x.board(10, 6));
        Twins.bad("6 both BAD", x -> x.board(5, -1));
        Twins.bad("6 the ends of int", x -> x.board(Integer.MAX_VALUE, Integer.MAX_VALUE));
    }

    /** "THE BOARD anew, as at first but for p and r" */
    private static void asAtFirst() {
        FarBoards x = new FarBoards();
        Twins.stage(x);
        Due.due("6 the same SIDES and RINGS", x.board(6, 2), 19);
        for (int c = 0; c < 19; c++) {
            Due.due("6 colour of " + c, x.paint(c, 0), 0);
            Due.due("6 life of " + c, x.live(c, 0), 0);
        }
        for (int what = 0; what <= 3; what++) Due.due("6 THE MOUSE, " + what, x.mouse(what), 0);
        Due.due("6 SHEETS are not of THE BOARD", x.count(0), 4);
        Due.due("6 nor is the tape", x.count(8), 7);
        Due.due("6 nor is THE TRACE", x.trace(0), 13);
        Due.due("6 nor is a FAULT", x.fault(), 2);
        Due.due("6 nor is a FINDING", x.status(), 3);
    }

    /** A large board, a small one, a large one: what was on the first one is gone. */
    private static void nothingIsLeftOver() {
        FarBoards x = Edges.on(9, 3);
        for (int c = 200; c < 271; c++) {
            x.paint(c, 3);
            x.live(c, 1);
        }
        x.put(270, 8);
        x.board(6, 0);
        Due.due("6 THE MOUSE is on THE BOARD", x.mouse(0), 0);
        Due.due("6 turned to a side that is there", x.mouse(1), 0);
        Due.due("6 none live on the small one", x.count(7), 0);
        x.board(9, 3);
        Due.due("6 none live on the large one", x.count(7), 0);
        for (int c = 200; c < 271; c++) Due.due("6 colour of " + c, x.paint(c, 0), 0);
        Due.due("6 the last CELL's PARENTS", x.cell(270, 2), 54);
        x.board(10, 2);
        x.board(6, 2);
        Due.due("6 an EDGE where there was a CELL", x.side(7, 4), Due.NONE);
        Due.due("6 no more than six SIDES", x.side(7, 6), Due.BAD);
    }

    /** "THE BOARD anew": the last of four hundred is as whole as the first one. */
    private static void manyBoardsOneAfterAnother() {
        for (int[] last : Edges.BOARDS) {
            FarBoards x = new FarBoards();
            for (int i = 0; i < 400; i++) {
                int[] board = Edges.BOARDS[i % Edges.BOARDS.length];
                x.board(board[0], board[1]);
            }
            Model m = new Model();
            m.board(last[0], last[1]);
            Due.due("6 behind 400 others", x.board(last[0], last[1]), last[2]);
            String on = " on " + last[0] + "/" + last[1];
            Due.due("6 pairs side by side" + on, x.clashes(), m.clashes());
            Due.due("6 from the first CELL to the last" + on, x.far(0, last[2] - 1, 0), last[1]);
            for (int c : new int[] {0, last[2] / 2, last[2] - 1}) {
                for (int s = 0; s < last[0]; s++) Due.due("6 side " + s + " of " + c + on, x.side(c, s), m.side(c, s));
            }
        }
    }

    private static void ringNoughtAlone() {
        for (int p = 6; p <= 10; p++) {
            FarBoards x = new FarBoards();
            Due.due("6 RING 0 alone", x.board(p, 0), 1);
            Due.due("6 CELL 0", x.cell(0, 0), 0);
            Due.due("6 no CELL 1", x.cell(1, 0), Due.BAD);
            Due.due("6 no RIM", x.count(6), 0);
            Due.due("6 THE MOUSE at it", x.mouse(0), 0);
            Due.due("6 turned to the last side", x.put(0, p - 1), 1);
        }
    }
}
