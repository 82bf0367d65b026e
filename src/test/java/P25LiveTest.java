/** Promise 25, live. */
public final class P25LiveTest {
    public static void main(String[] args) {
        Due.part(Due.Part.ORDINARY_USE);
        ordinaryUse();
        Due.part(Due.Part.EDGES);
        whatItWas();
        noneAtFirst();
        ringNoughtAlone();
        Due.part(Due.Part.WRONG_NUMBERS);
        noSuchCell();
        neitherOneNorNought();
        Due.endOfPromise();
    }

    private static void ordinaryUse() {
        FarBoards x = new FarBoards();
        Due.due("25 CELL 3", x.live(3, 1), 0);
        Due.due("25 CELL 12", x.live(12, 1), 0);
        Due.due("25 two live", x.count(7), 2);
        Due.due("25 CELL 3 no more", x.live(3, 0), 1);
        Due.due("25 one lives", x.count(7), 1);
        Due.due("25 CELL 12 still", x.live(12, 1), 1);
    }

    /** "BAD." */
    private static void noSuchCell() {
        for (int cell : Edges.outside(0, 18)) {
            Twins.bad("25 CELL " + cell, x -> x.live(cell, 1));
            Twins.bad("25 CELL " + cell + ", 0", x -> x.live(cell, 0));
        }
        FarBoards x = Edges.on(9, 3);
        Due.due("25 the last CELL of the largest board", x.live(270, 1), 0);
        Due.due("25 the one behind it", x.live(271, 1), Due.BAD);
        Due.due("25 one lives", x.count(7), 1);
    }

    /** "A CELL lives (1), does not (0)" */
    private static void neitherOneNorNought() {
        for (int v : Edges.outside(0, 1)) {
            Twins.bad("25 v " + v + " of one that lives", x -> x.live(0, v));
            Twins.bad("25 v " + v + " of one that does not", x -> x.live(1, v));
        }
    }

    /** "what it was" */
    private static void whatItWas() {
        for (int c : new int[] {0, 28}) {
            FarBoards x = new FarBoards();
            Due.due("25 0 of one that does not", x.live(c, 0), 0);
            Due.due("25 1 of one that does not", x.live(c, 1), 0);
            Due.due("25 1 of one that lives", x.live(c, 1), 1);
            Due.due("25 it is one still", x.count(7), 1);
            Due.due("25 0 of one that lives", x.live(c, 0), 1);
            Due.due("25 none now", x.count(7), 0);
        }
    }

    /** "(none at first)" */
    private static void noneAtFirst() {
        for (int[] board : Edges.BOARDS) {
            FarBoards x = Edges.on(board[0], board[1]);
            Due.due("25 none at first", x.count(7), 0);
            for (int c = 0; c < board[2]; c++) Due.due("25 at first", x.live(c, 1), 0);
            Due.due("25 all of them now", x.count(7), board[2]);
        }
    }

    private static void ringNoughtAlone() {
        FarBoards x = Edges.on(10, 0);
        Due.due("25 alone", x.live(0, 1), 0);
        Due.due("25 no CELL 1", x.live(1, 1), Due.BAD);
    }
}
