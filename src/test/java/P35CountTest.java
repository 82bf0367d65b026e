/** Promise 35, count. */
public final class P35CountTest {
    public static void main(String[] args) {
        Due.part(Due.Part.ORDINARY_USE);
        ordinaryUse();
        Due.part(Due.Part.EDGES);
        sheets();
        kindsAsTheyAreTold();
        ringNoughtAlone();
        thatLive();
        bytes();
        Due.part(Due.Part.WRONG_NUMBERS);
        noSuchQuestion();
        Due.endOfPromise();
    }

    private static void ordinaryUse() {
        FarBoards x = Edges.on(8, 3);
        x.sheet(2, 0, 9);
        x.live(17, 1);
        x.live(160, 1);
        x.feed(0x6666_66L, 3);
        // LONE: RING 1 and 24 of RING 2; PAIRED: 8 of RING 2; RIM: all of RING 3.
        int[] want = {1, 161, 3, 8, 8 + 24, 8, 120, 2, 3};
        for (int what = 0; what <= 8; what++) Due.due("35 count(" + what + ")", x.count(what), want[what]);
    }

    /** "BAD." */
    private static void noSuchQuestion() {
        for (int what : Edges.outside(0, 8)) {
            Twins.bad("35 what " + what, x -> x.count(what));
        }
        int[] want = {4, 19, 2, 6, 6, 0, 12, 7, 7};
        for (int what = 0; what <= 8; what++) {
            int asked = what;
            Twins.asks("35 what " + what, x -> x.count(asked), want[what]);
        }
    }

    /** None, all eight; a SHEET with no ITEMS is one. */
    private static void sheets() {
        FarBoards x = new FarBoards();
        Due.due("35 no SHEETS", x.count(0), 0);
        for (int sheet = 7; sheet >= 0; sheet--) {
            x.sheet(sheet, 0, 0);
            Due.due("35 SHEETS", x.count(0), 8 - sheet);
        }
        x.sheet(7, 1, 60);
        Due.due("35 one in place of another", x.count(0), 8);
        x.drop(0);
        Due.due("35 the first one dropped", x.count(0), 7);
        x.drop(7);
        Due.due("35 the last one dropped", x.count(0), 6);
        x.drop(7);
        Due.due("35 NULL drops none", x.count(0), 6);
    }

    /** "LONE, 5 PAIRED, 6 RIM ones, as they are told": together with CELL 0 they are all. */
    private static void kindsAsTheyAreTold() {
        for (int[] board : Edges.BOARDS) {
            Model m = new Model();
            m.board(board[0], board[1]);
            FarBoards x = Edges.on(board[0], board[1]);
            String on = " on " + board[0] + "/" + board[1];
            for (int what = 1; what <= 6; what++) Due.due("35 count(" + what + ")" + on, x.count(what), m.count(what));
            Due.due("35 together" + on, 1 + x.count(4) + x.count(5) + x.count(6), board[2]);
            int rim = board[1] == 0 ? 0 : x.grown(board[0], board[1], 0);
            Due.due("35 RIM" + on, x.count(6), rim);
        }
    }

    private static void ringNoughtAlone() {
        int[] want = {0, 1, 0, 8, 0, 0, 0, 0, 0};
        FarBoards x = Edges.on(8, 0);
        for (int what = 0; what <= 8; what++) Due.due("35 alone, " + what, x.count(what), want[what]);
    }

    private static void thatLive() {
        for (int[] board : Edges.BOARDS) {
            FarBoards x = Edges.on(board[0], board[1]);
            Due.due("35 none live", x.count(7), 0);
            x.live(board[2] - 1, 1);
            Due.due("35 the last CELL lives", x.count(7), 1);
            x.steps(2047, 2047, 1);
            Due.due("35 all live", x.count(7), board[2]);
        }
    }

    private static void bytes() {
        FarBoards x = new FarBoards();
        Due.due("35 no bytes", x.count(8), 0);
        Due.feedAll(x, " ".repeat(299));
        Due.due("35 all but one", x.count(8), 299);
        x.feed(' ', 2);
        Due.due("35 FULL brings none", x.count(8), 299);
        x.feed(' ', 1);
        Due.due("35 all", x.count(8), 300);
        x.run();
        Due.due("35 read", x.count(8), 0);
    }
}
