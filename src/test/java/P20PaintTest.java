/** Promise 20, paint: colours 0 to 3, or NONE. */
public final class P20PaintTest {
    public static void main(String[] args) {
        Due.part(Due.Part.ORDINARY_USE);
        ordinaryUse();
        Due.part(Due.Part.EDGES);
        everyColour();
        noughtAtFirst();
        ringNoughtAlone();
        Due.part(Due.Part.WRONG_NUMBERS);
        noSuchCell();
        noSuchColour();
        Due.endOfPromise();
    }

    private static void ordinaryUse() {
        FarBoards x = new FarBoards();
        Due.due("20 colour 2", x.paint(4, 2), 0);
        Due.due("20 another CELL", x.paint(20, 1), 0);
        Due.due("20 colour 3", x.paint(4, 3), 2);
        Due.due("20 rubbed out", x.paint(4, Due.NONE), 3);
        Due.due("20 colour 1", x.paint(4, 1), Due.NONE);
        Due.due("20 the other one's", x.paint(20, 1), 1);
    }

    /** "BAD." */
    private static void noSuchCell() {
        for (int cell : Edges.outside(0, 18)) {
            Twins.bad("20 CELL " + cell, x -> x.paint(cell, 1));
            Twins.bad("20 CELL " + cell + ", rubbed out", x -> x.paint(cell, Due.NONE));
        }
        FarBoards x = Edges.on(9, 3);
        Due.due("20 the last CELL of the largest board", x.paint(270, 3), 0);
        Due.due("20 the one behind it", x.paint(271, 3), Due.BAD);
    }

    /** "each CELL has a colour 0 to 3", "NONE where it is rubbed out" */
    private static void noSuchColour() {
        for (int v : Edges.outside(0, 3)) {
            if (v == Due.NONE) continue;
            Twins.bad("20 v " + v, x -> x.paint(0, v));
            Twins.bad("20 v " + v + " of a rubbed one", x -> x.paint(4, v));
        }
        Twins.bad("20 v NONE and 1", x -> x.paint(0, Due.NONE + 1));
        Twins.bad("20 v NONE less 1", x -> x.paint(0, Due.NONE - 1));
        Twins.bad("20 v -NONE", x -> x.paint(0, -Due.NONE));
    }

    /** "what it was" */
    private static void everyColour() {
        int[] colours = {0, 3, 2, 1, Due.NONE, 0, Due.NONE, Due.NONE, 3, 3};
        for (int c : new int[] {0, 28}) {
            FarBoards x = new FarBoards();
            int was = 0;
            for (int v : colours) {
                Due.due("20 CELL " + c + " becomes " + v, x.paint(c, v), was);
                was = v;
            }
            Due.due("20 the CELL beside it stays", x.paint(c == 0 ? 1 : 27, 0), 0);
        }
    }

    /** "(0 at first)" */
    private static void noughtAtFirst() {
        for (int[] board : Edges.BOARDS) {
            FarBoards x = Edges.on(board[0], board[1]);
            for (int c = 0; c < board[2]; c++) Due.due("20 at first", x.paint(c, 3), 0);
        }
    }

    private static void ringNoughtAlone() {
        FarBoards x = Edges.on(6, 0);
        Due.due("20 alone", x.paint(0, 3), 0);
        Due.due("20 alone, again", x.paint(0, 0), 3);
        Due.due("20 no CELL 1", x.paint(1, 0), Due.BAD);
    }
}
