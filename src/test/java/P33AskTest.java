/** Promise 33, ask. */
public final class P33AskTest {
    public static void main(String[] args) {
        Due.part(Due.Part.ORDINARY_USE);
        ordinaryUse();
        Due.part(Due.Part.EDGES);
        firstCell();
        ringNoughtAlone();
        eachKind();
        rimOfTheFirstRing();
        traceIsEmptyAhead();
        everyBoard();
        Due.part(Due.Part.WRONG_NUMBERS);
        noSuchCell();
        noSuchAsk();
        Due.endOfPromise();
    }

    private static void ordinaryUse() {
        FarBoards x = Edges.on(8, 3);
        Due.due("33 SIZE of a LONE one: its RING and five CHILDREN", x.ask(5, 0), 1 + 5);
        Due.due("33 MARK of a LONE one", x.ask(5, 1), 1005);
        Due.due("33 SIZE of a PAIRED one: its RING and PARENTS 1 and 2", x.ask(12, 0), 2 + 1 + 2);
        Due.due("33 MARK of a PAIRED one: its number and its SIZE", x.ask(12, 1), 12 + 5);
        Due.due("33 MARK of a RIM one: twice its number", x.ask(41, 1), 82);
        Due.due("33 SIZE of a RIM one: its RING less its MARK", x.ask(41, 0), 3 - 82);
    }

    /** "BAD.": THE TRACE stays, too. */
    private static void noSuchCell() {
        for (int cell : Edges.outside(0, 18)) {
            Twins.bad("33 CELL " + cell + ", SIZE", x -> x.ask(cell, 0));
            Twins.bad("33 CELL " + cell + ", MARK", x -> x.ask(cell, 1));
        }
    }

    /** "An ASK (0, 1)" */
    private static void noSuchAsk() {
        for (int what : Edges.outside(0, 1)) {
            Twins.bad("33 ASK " + what, x -> x.ask(0, what));
            Twins.bad("33 ASK " + what + " of a RIM one", x -> x.ask(18, what));
        }
    }

    private static void firstCell() {
        for (int[] board : Edges.BOARDS) {
            FarBoards x = Edges.on(board[0], board[1]);
            Due.due("33 SIZE of CELL 0", x.ask(0, 0), 0);
            Due.due("33 MARK of CELL 0", x.ask(0, 1), 0);
        }
    }

    private static void ringNoughtAlone() {
        FarBoards x = Edges.on(9, 0);
        bodies("33 alone, SIZE", x, 0, 0, 0, 10);
        bodies("33 alone, MARK", x, 0, 1, 0, 20);
        Due.due("33 no CELL 1", x.ask(1, 0), Due.BAD);
    }

    private static void eachKind() {
        FarBoards x = Edges.on(7, 3);
        bodies("33 LONE, SIZE", x, 8, 0, 2 + 4, 11, 10);
        bodies("33 LONE, MARK", x, 8, 1, 1008, 21, 20);
        bodies("33 PAIRED, SIZE", x, 28, 0, 2 + 7 + 1, 12, 10);
        bodies("33 PAIRED, MARK", x, 28, 1, 28 + 10, 22, 20, 12, 10);
        bodies("33 RIM, SIZE", x, 84, 0, 3 - 168, 13, 10, 23, 20);
        bodies("33 RIM, MARK", x, 84, 1, 168, 23, 20);
        x.board(6, 5);
        bodies("33 the CHILDREN of a LONE one of six SIDES", x, 37, 0, 4 + 3, 11, 10);
        bodies("33 RIM, the last one", x, 90, 0, 5 - 180, 13, 10, 23, 20);
        x.board(10, 2);
        bodies("33 the CHILDREN of a LONE one of ten SIDES", x, 10, 0, 1 + 7, 11, 10);
    }

    private static void rimOfTheFirstRing() {
        for (int p = 6; p <= 10; p++) {
            FarBoards x = Edges.on(p, 1);
            bodies("33 RIM of RING 1, SIZE", x, p, 0, 1 - 2 * p, 13, 10, 23, 20);
            bodies("33 RIM of RING 1, MARK", x, p, 1, 2 * p, 23, 20);
        }
    }

    /** "THE TRACE is empty ahead of it." */
    private static void traceIsEmptyAhead() {
        FarBoards x = new FarBoards();
        bodies("33 four BODIES", x, 28, 0, 2 - 56, 13, 10, 23, 20);
        bodies("33 one behind them", x, 0, 0, 0, 10);
        bodies("33 two behind it", x, 1, 1, 1001, 21, 20);
        x.ask(29, 0);
        x.ask(0, 2);
        Due.due("33 BAD leaves the first", x.trace(0), 21);
        Due.due("33 BAD leaves the second", x.trace(1), 20);
    }

    private static void everyBoard() {
        for (int[] board : Edges.BOARDS) {
            Model m = new Model();
            m.board(board[0], board[1]);
            for (int c = 0; c < board[2]; c++) {
                FarBoards x = Edges.on(board[0], board[1]);
                for (int what = 0; what <= 1; what++) {
                    String of = "(" + c + ", " + what + ") on " + board[0] + "/" + board[1];
                    Due.due("33 ask" + of, x.ask(c, what), m.ask(c, what));
                    for (int i = 0; i <= 4; i++) Due.due("33 BODY " + i + " of ask" + of, x.trace(i), m.trace(i));
                }
            }
        }
    }

    private static void bodies(String name, FarBoards x, int cell, int what, int want, int... bodies) {
        Due.due(name, x.ask(cell, what), want);
        for (int i = 0; i <= 16; i++) {
            Due.due(name + ", BODY " + i, x.trace(i), i < bodies.length ? bodies[i] : Due.NONE);
        }
    }
}
