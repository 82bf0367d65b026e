/** Promise 9, by. */
public final class P09ByTest {
    public static void main(String[] args) {
        Due.part(Due.Part.ORDINARY_USE);
        ordinaryUse();
        Due.part(Due.Part.EDGES);
        firstAndLastSide();
        noneWhereItIsNot();
        ringNoughtAlone();
        everyPair();
        Due.part(Due.Part.WRONG_NUMBERS);
        noSuchCell();
        Due.endOfPromise();
    }

    private static void ordinaryUse() {
        FarBoards x = Edges.on(8, 2);
        Due.due("9 its last CHILD", x.by(5, 28), 2);
        Due.due("9 its first PARENT", x.by(28, 5), 0);
        Due.due("9 its other PARENT", x.by(28, 6), 1);
        Due.due("9 the other PARENT's first CHILD", x.by(6, 28), 6);
        Due.due("9 the one ahead", x.by(5, 4), 7);
        Due.due("9 not side by side", x.by(5, 14), Due.NONE);
    }

    /** "BAD", the one and the other. */
    private static void noSuchCell() {
        for (int cell : Edges.outside(0, 18)) {
            Twins.bad("9 CELL " + cell, x -> x.by(cell, 0));
            Twins.bad("9 other " + cell, x -> x.by(0, cell));
            Twins.bad("9 other " + cell + " of one with EDGES", x -> x.by(18, cell));
            Twins.bad("9 both " + cell, x -> x.by(cell, cell));
        }
    }

    private static void firstAndLastSide() {
        for (int p = 6; p <= 10; p++) {
            FarBoards x = Edges.on(p, 1);
            Due.due("9 side 0", x.by(0, 1), 0);
            Due.due("9 the last side", x.by(0, 2), p - 1);
            Due.due("9 side 1", x.by(0, p), 1);
            Due.due("9 round the RING, behind the last", x.by(p, 1), 1);
            Due.due("9 round the RING, ahead of the first", x.by(1, p), p - 1);
        }
    }

    /** "NONE" */
    private static void noneWhereItIsNot() {
        FarBoards x = new FarBoards();
        Due.due("9 itself", x.by(0, 0), Due.NONE);
        Due.due("9 the last one itself", x.by(28, 28), Due.NONE);
        Due.due("9 two steps off", x.by(0, 8), Due.NONE);
        Due.due("9 the first and the last", x.by(0, 28), Due.NONE);
        Due.due("9 the last and the first", x.by(28, 0), Due.NONE);
        Due.due("9 one place further round", x.by(8, 10), Due.NONE);
    }

    private static void ringNoughtAlone() {
        FarBoards x = Edges.on(10, 0);
        Due.due("9 itself alone", x.by(0, 0), Due.NONE);
        Due.due("9 no CELL 1", x.by(0, 1), Due.BAD);
    }

    private static void everyPair() {
        for (int[] board : new int[][] {{6, 2, 19}, {7, 2, 29}, {8, 1, 9}, {10, 2, 71}}) {
            Model m = new Model();
            m.board(board[0], board[1]);
            for (int a = 0; a < board[2]; a++) {
                FarBoards x = Edges.on(board[0], board[1]);
                for (int b = 0; b < board[2]; b++) {
                    Due.due("9 by(" + a + ", " + b + ") on " + board[0] + "/" + board[1], x.by(a, b), m.by(a, b));
                }
            }
        }
    }
}
