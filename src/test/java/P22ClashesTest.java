/** Promise 22, clashes. */
public final class P22ClashesTest {
    public static void main(String[] args) {
        Due.part(Due.Part.ORDINARY_USE);
        ordinaryUse();
        Due.part(Due.Part.EDGES);
        ringNoughtAlone();
        allAlike();
        allRubbedOut();
        rubbedOnesAreNotCounted();
        roundTheRing();
        firstAndLastColour();
        Due.part(Due.Part.WRONG_NUMBERS);
        badColoursChangeNone();
        Due.endOfPromise();
    }

    private static void ordinaryUse() {
        FarBoards x = Edges.on(6, 1);
        for (int c = 1; c <= 6; c++) x.paint(c, 1 + c % 2);
        Due.due("22 no two alike", x.clashes(), 0);
        x.paint(2, 2);
        Due.due("22 1 and 2, 2 and 3", x.clashes(), 2);
        x.paint(0, 2);
        Due.due("22 CELL 0 with 1, 2, 3, 5, too", x.clashes(), 6);
    }

    private static void ringNoughtAlone() {
        for (int p = 6; p <= 10; p++) Due.due("22 alone", Edges.on(p, 0).clashes(), 0);
    }

    /** Every pair of CELLS side by side: on each board as many as half of all sides that are no EDGES. */
    private static void allAlike() {
        for (int[] board : Edges.BOARDS) {
            Model m = new Model();
            m.board(board[0], board[1]);
            int sides = 0;
            for (int c = 0; c < board[2]; c++) sides += m.cell(c, 5);
            Due.due("22 all alike on " + board[0] + "/" + board[1], Edges.on(board[0], board[1]).clashes(), sides / 2);
        }
        // On the stage 0 and 5, 1 and 6, 5 and 15, 6 and 16.
        Twins.asks("22 only asks", x -> x.clashes(), 4);
    }

    /** "(rubbed ones not counted)": not with one another, either. */
    private static void allRubbedOut() {
        FarBoards x = new FarBoards();
        for (int c = 0; c < 29; c++) x.paint(c, Due.NONE);
        Due.due("22 all rubbed out", x.clashes(), 0);
        x.paint(0, 0);
        Due.due("22 but one", x.clashes(), 0);
        x.paint(1, 0);
        Due.due("22 but two side by side", x.clashes(), 1);
        x.paint(1, 1);
        Due.due("22 not alike", x.clashes(), 0);
    }

    private static void rubbedOnesAreNotCounted() {
        FarBoards x = Edges.on(6, 1);
        Due.due("22 twelve", x.clashes(), 12);
        x.paint(0, Due.NONE);
        Due.due("22 the RING alone", x.clashes(), 6);
        x.paint(0, 0);
        x.paint(6, Due.NONE);
        Due.due("22 the last one rubbed out", x.clashes(), 9);
    }

    /** The last CELL of a RING and its first one are side by side. */
    private static void roundTheRing() {
        FarBoards x = new FarBoards();
        for (int c = 0; c < 29; c++) x.paint(c, Due.NONE);
        x.paint(8, 2);
        x.paint(28, 2);
        Due.due("22 the first and the last of RING 2", x.clashes(), 1);
        x.paint(1, 2);
        Due.due("22 and CELL 1, beside both", x.clashes(), 3);
        x.paint(7, 2);
        Due.due("22 and CELL 7, beside 1 and 28", x.clashes(), 5);
    }

    private static void firstAndLastColour() {
        for (int v = 0; v <= 3; v++) {
            FarBoards x = Edges.on(10, 1);
            for (int c = 0; c <= 10; c++) x.paint(c, v);
            Due.due("22 all of colour " + v, x.clashes(), 20);
            x.paint(0, (v + 1) % 4);
            Due.due("22 the RING of colour " + v, x.clashes(), 10);
        }
    }

    /** clashes() takes no numbers: wrong ones that paint() and paints() refuse change none of them. */
    private static void badColoursChangeNone() {
        FarBoards x = new FarBoards();
        x.sheet(0, 0, 2);
        x.set(0, 0, 1);
        x.set(0, 1, 4);
        Due.due("22 no colour", x.paint(0, 4), Due.BAD);
        Due.due("22 no CELL", x.paint(29, 1), Due.BAD);
        Due.due("22 an ITEM that is no colour, behind one that is", x.paints(0, 0, 0, 2), Due.BAD);
        Due.due("22 no such place", x.paints(0, 0, 2, 1), Due.PLACE_FOUND);
        Due.due("22 all alike still", x.clashes(), 63);
    }
}
