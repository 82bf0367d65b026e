/** Promise 1, a new object: what is there "at first". */
public final class P01NewObjectTest {
    public static void main(String[] args) {
        Due.part(Due.Part.ORDINARY_USE);
        ordinaryUse();
        Due.part(Due.Part.EDGES);
        boardAtFirst();
        mouseAtFirst();
        sheetsMissingAtFirst();
        nothingAtFirst();
        objectsShareNothing();
        lastOfItsCalls();
        Due.part(Due.Part.WRONG_NUMBERS);
        beyondWhatIsThere();
        Due.endOfPromise();
    }

    private static void ordinaryUse() {
        FarBoards x = new FarBoards();
        Due.due("1 CELL 0's first neighbour", x.side(0, 0), 1);
        Due.due("1 one step", Due.runText(x, "f"), 1);
        Due.due("1 over side 0 to CELL 1", x.mouse(0), 1);
        Due.due("1 a SHEET", x.sheet(0, 0, 4), 4);
        Due.due("1 a colour", x.paint(28, 2), 0);
        Due.due("1 a CELL that lives", x.live(28, 1), 0);
    }

    /** "A BOARD of 7 SIDES, 2 RINGS" */
    private static void boardAtFirst() {
        FarBoards x = new FarBoards();
        Due.due("1 SIDES", x.count(3), 7);
        Due.due("1 RINGS", x.count(2), 2);
        Due.due("1 CELLS", x.count(1), 29);
        Due.due("1 the last side of the last CELL", x.side(28, 6), 27);
        Due.due("1 RING 2", x.living(2), 0);
    }

    /** What is one beyond 7 SIDES, 2 RINGS, 29 CELLS and no SHEETS is not there; a new object stays as it is. */
    private static void beyondWhatIsThere() {
        Twins.Calls nothing = x -> { };
        Twins.bad("1 no side 7", nothing, x -> x.side(28, 7));
        Twins.bad("1 no CELL 29", nothing, x -> x.side(29, 0));
        Twins.bad("1 no CELL -1", nothing, x -> x.cell(-1, 0));
        Twins.bad("1 no RING 3", nothing, x -> x.living(3));
        Twins.bad("1 no TURN by 7", nothing, x -> x.turned(1, 7));
        Twins.found("1 no SHEET 0", nothing, x -> x.drop(0), 1);
    }

    /** "THE MOUSE at CELL 0, turned to side 0." */
    private static void mouseAtFirst() {
        FarBoards x = new FarBoards();
        Due.due("1 CELL of THE MOUSE", x.mouse(0), 0);
        Due.due("1 its side", x.mouse(1), 0);
        Due.due("1 its BUMPS", x.mouse(2), 0);
        Due.due("1 its steps", x.mouse(3), 0);
    }

    /** "SHEETS 0 .. 7 are missing (at first)" */
    private static void sheetsMissingAtFirst() {
        FarBoards x = new FarBoards();
        Due.due("1 SHEETS", x.count(0), 0);
        for (int sheet = 0; sheet < 8; sheet++) {
            Due.due("1 SHEET " + sheet, x.drop(sheet), Due.NULL_FOUND);
        }
    }

    /** Colours "0 at first", LIFE "none at first", fault() "0 before one", status() 0 as "there was none". */
    private static void nothingAtFirst() {
        FarBoards x = new FarBoards();
        Due.due("1 fault()", x.fault(), 0);
        Due.due("1 status()", x.status(), 0);
        Due.due("1 the tape", x.count(8), 0);
        Due.due("1 a tape with no bytes is done", x.run(), 0);
        for (int i = -1; i <= 17; i++) {
            Due.due("1 THE TRACE at " + i, x.trace(i), Due.NONE);
        }
        for (int c = 0; c < 29; c++) {
            Due.due("1 colour of " + c, x.paint(c, 1), 0);
            Due.due("1 life of " + c, x.live(c, 1), 0);
        }
    }

    private static void objectsShareNothing() {
        FarBoards x = new FarBoards();
        FarBoards y = new FarBoards();
        Twins.stage(x);
        Due.due("1 the other one's CELLS", y.count(1), 29);
        Due.due("1 the other one's SHEETS", y.count(0), 0);
        Due.due("1 the other one's tape", y.count(8), 0);
        Due.due("1 the other one's life", y.count(7), 0);
        Due.due("1 the other one's colours", y.clashes(), 63);
        Due.due("1 the other one's THE MOUSE", y.mouse(0), 0);
        Due.due("1 the other one's FAULT", y.fault(), 0);
        Due.due("1 the other one's status()", y.status(), 0);
        Due.due("1 the other one's THE TRACE", y.trace(0), Due.NONE);
    }

    /** "An object is used for at most 512 calls after it has been made" */
    private static void lastOfItsCalls() {
        FarBoards x = new FarBoards();
        x.board(9, 0);
        for (int i = 1; i <= 510; i += 3) {
            // 5(20(20f)): 2000 BUMPS each time.
            Due.due("1 call " + (i + 1), x.feed(0x3528_3230_2832_3066L, 8), 8);
            Due.due("1 call " + (i + 2), x.feed(0x2929, 2), 10);
            Due.due("1 call " + (i + 3), x.run(), 2000);
        }
        Due.due("1 call 512", x.mouse(2), 340000);
        FarBoards y = new FarBoards();
        for (int i = 1; i <= 510; i++) {
            Due.due("1 SHEETS anew, call " + i, y.sheet(i % 8, i % 3, i % 61), i % 61);
        }
        Due.due("1 call 511", y.count(0), 8);
        Due.due("1 call 512", y.drop(510 % 8), 510 % 61);
        FarBoards z = new FarBoards();
        for (int i = 1; i <= 511; i++) {
            int[] board = Edges.BOARDS[i % Edges.BOARDS.length];
            Due.due("1 boards anew, call " + i, z.board(board[0], board[1]), board[2]);
        }
        int[] last = Edges.BOARDS[511 % Edges.BOARDS.length];
        Due.due("1 call 512", z.count(3), last[0]);
    }
}
