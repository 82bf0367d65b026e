/** Promise 31, kind: RIM, PAIRED, LONE, CELL, the first that fits. */
public final class P31KindTest {
    public static void main(String[] args) {
        Due.part(Due.Part.ORDINARY_USE);
        ordinaryUse();
        Due.part(Due.Part.EDGES);
        firstCellIsNoRim();
        outermostRing();
        insideOfIt();
        everyBoard();
        Due.part(Due.Part.WRONG_NUMBERS);
        noSuchCell();
        Due.endOfPromise();
    }

    private static void ordinaryUse() {
        FarBoards x = Edges.on(8, 3);
        Due.due("31 CELL", x.kind(0), 0);
        Due.due("31 LONE", x.kind(5), 1);
        Due.due("31 LONE in RING 2", x.kind(14), 1);
        Due.due("31 PAIRED", x.kind(12), 2);
        Due.due("31 RIM", x.kind(41), 3);
    }

    /** "BAD." */
    private static void noSuchCell() {
        for (int cell : Edges.outside(0, 18)) {
            Twins.bad("31 CELL " + cell, x -> x.kind(cell));
        }
    }

    /** "of the outermost RING, and that is not RING 0" */
    private static void firstCellIsNoRim() {
        for (int[] board : Edges.BOARDS) {
            Due.due("31 CELL 0 on " + board[0] + "/" + board[1], Edges.on(board[0], board[1]).kind(0), 0);
        }
    }

    /** "It is told as the first that fits of RIM, PAIRED, LONE, CELL" */
    private static void outermostRing() {
        for (int p = 6; p <= 10; p++) {
            FarBoards x = Edges.on(p, 1);
            Due.due("31 RIM of RING 1, the first", x.kind(1), 3);
            Due.due("31 RIM of RING 1, the last", x.kind(p), 3);
            x.board(p, 2);
            Due.due("31 no RIM now, the first", x.kind(1), 1);
            Due.due("31 no RIM now, the last", x.kind(p), 1);
            Due.due("31 RIM with one PARENT", x.kind(p + 1), 3);
            Due.due("31 RIM with two PARENTS", x.kind(p + p - 4), 3);
            Due.due("31 RIM, the last CELL", x.kind(x.count(1) - 1), 3);
        }
    }

    private static void insideOfIt() {
        FarBoards x = Edges.on(7, 3);
        Due.due("31 LONE, the first of RING 2", x.kind(8), 1);
        Due.due("31 LONE", x.kind(9), 1);
        Due.due("31 PAIRED", x.kind(10), 2);
        Due.due("31 PAIRED, the last of RING 2", x.kind(28), 2);
        Due.due("31 RIM, the first of RING 3", x.kind(29), 3);
        Due.due("31 RIM, the last of RING 3", x.kind(84), 3);
        Due.due("31 none behind it", x.kind(85), Due.BAD);
    }

    private static void everyBoard() {
        for (int[] board : Edges.BOARDS) {
            Model m = new Model();
            m.board(board[0], board[1]);
            FarBoards x = Edges.on(board[0], board[1]);
            for (int c = 0; c < board[2]; c++) {
                Due.due("31 kind(" + c + ") on " + board[0] + "/" + board[1], x.kind(c), m.kind(c));
            }
        }
    }
}
