/** Promise 11, far. */
public final class P11FarTest {
    public static void main(String[] args) {
        Due.part(Due.Part.ORDINARY_USE);
        ordinaryUse();
        Due.part(Due.Part.EDGES);
        toItself();
        acrossTheBoard();
        roundTheRing();
        ringNoughtAlone();
        everyPair();
        noCountReachesTheModulus();
        Due.part(Due.Part.WRONG_NUMBERS);
        noSuchCell();
        noSuchQuestion();
        Due.endOfPromise();
    }

    private static void ordinaryUse() {
        FarBoards x = new FarBoards();
        Due.due("11 over CELL 0", x.far(2, 5, 0), 2);
        Due.due("11 and no other way", x.far(2, 5, 1), 1);
        Due.due("11 over CELL 0 or CELL 2", x.far(1, 3, 1), 2);
        Due.due("11 from RING 2", x.far(8, 3, 0), 3);
        Due.due("11 over 1, then 0 or 2", x.far(8, 3, 1), 2);
        Due.due("11 and back", x.far(3, 8, 0), 3);
    }

    /** "BAD" */
    private static void noSuchCell() {
        for (int cell : Edges.outside(0, 18)) {
            for (int what = 0; what <= 1; what++) {
                int asked = what;
                Twins.bad("11 a " + cell + ", " + what, x -> x.far(cell, 0, asked));
                Twins.bad("11 b " + cell + ", " + what, x -> x.far(0, cell, asked));
            }
        }
        FarBoards x = new FarBoards();
        Due.due("11 the last CELL", x.far(0, 28, 0), 2);
        Due.due("11 from the last CELL", x.far(28, 0, 0), 2);
    }

    private static void noSuchQuestion() {
        for (int what : Edges.outside(0, 1)) {
            Twins.bad("11 what " + what, x -> x.far(0, 1, what));
        }
    }

    private static void toItself() {
        for (int c : new int[] {0, 1, 18}) {
            Twins.asks("11 FAR of " + c + " to itself", x -> x.far(c, c, 0), 0);
            Twins.asks("11 WAYS of " + c + " to itself", x -> x.far(c, c, 1), 1);
        }
    }

    /** The longest ways there are: from a corner of the largest board of six SIDES to the one across. */
    private static void acrossTheBoard() {
        FarBoards x = Edges.on(6, 5);
        Due.due("11 ten steps", x.far(61, 76, 0), 10);
        Due.due("11 of which there is one row", x.far(61, 76, 1), 1);
        Due.due("11 beside it there are ten", x.far(61, 77, 1), 10);
        Due.due("11 from the middle of a rim side to the one across", x.far(63, 78, 1), 210);
        x.board(9, 3);
        Due.due("11 over the middle", x.far(55, 170, 0), 6);
    }

    /** The first and the last CELL of a RING are side by side. */
    private static void roundTheRing() {
        for (int[] board : Edges.BOARDS) {
            if (board[1] == 0) continue;
            FarBoards x = Edges.on(board[0], board[1]);
            int last = board[2] - 1;
            int first = last - x.cell(last, 4);
            Due.due("11 round the RING", x.far(first, last, 0), 1);
            Due.due("11 one way round", x.far(last, first, 1), 1);
        }
    }

    private static void ringNoughtAlone() {
        FarBoards x = Edges.on(8, 0);
        Due.due("11 alone, FAR", x.far(0, 0, 0), 0);
        Due.due("11 alone, WAYS", x.far(0, 0, 1), 1);
        Due.due("11 no CELL 1", x.far(0, 1, 0), Due.BAD);
    }

    private static void everyPair() {
        for (int[] board : new int[][] {{6, 1, 7}, {6, 5, 91}, {7, 2, 29}, {10, 1, 11}}) {
            Model m = new Model();
            m.board(board[0], board[1]);
            for (int a = 0; a < board[2]; a++) {
                FarBoards x = Edges.on(board[0], board[1]);
                for (int b = 0; b < board[2]; b++) {
                    String of = "(" + a + ", " + b + ") on " + board[0] + "/" + board[1];
                    Due.due("11 FAR" + of, x.far(a, b, 0), m.far(a, b, 0));
                    Due.due("11 WAYS" + of, x.far(a, b, 1), m.far(a, b, 1));
                }
            }
        }
    }

    /** "modulo 1000000007": no board has so many WAYS; the most are of ten steps, five this way and five that way. */
    private static void noCountReachesTheModulus() {
        for (int[] board : Edges.BOARDS) {
            int most = 0;
            for (int a = 0; a < board[2]; a += board[2] > 100 ? 7 : 1) {
                FarBoards x = Edges.on(board[0], board[1]);
                for (int b = 0; b < board[2]; b++) most = Math.max(most, x.far(a, b, 1));
            }
            String on = " on " + board[0] + "/" + board[1];
            Due.holds("11 " + most + " WAYS" + on, most >= 1 && most <= 252);
            if (board[0] == 6 && board[1] == 5) Due.due("11 the most WAYS" + on, most, 252);
        }
    }
}
