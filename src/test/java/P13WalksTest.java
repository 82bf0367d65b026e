import java.math.BigInteger;
import java.util.Arrays;

/** Promise 13, walks: 0 to 30 steps, modulo 1000000007. */
public final class P13WalksTest {
    private static final BigInteger MODULUS = BigInteger.valueOf(1000000007L);

    public static void main(String[] args) {
        Due.part(Due.Part.ORDINARY_USE);
        ordinaryUse();
        Due.part(Due.Part.EDGES);
        noSteps();
        ringNoughtAlone();
        acrossTheModulus();
        Due.part(Due.Part.WRONG_NUMBERS);
        noSuchCell();
        noSuchSteps();
        Due.endOfPromise();
    }

    private static void ordinaryUse() {
        FarBoards x = new FarBoards();
        Due.due("13 to one beside and back", x.walks(0, 0, 2), 7);
        Due.due("13 over 2 or 7", x.walks(0, 1, 2), 2);
        // From 1 over 0, 2, 7, 10, 9, 8 and 28, and then two steps to 0.
        Due.due("13 three steps", x.walks(1, 0, 3), 7 + 2 + 2 + 2 + 1 + 1 + 2);
        Due.due("13 too few steps", x.walks(8, 20, 3), 0);
    }

    /** "BAD: CELLS" */
    private static void noSuchCell() {
        for (int cell : Edges.outside(0, 18)) {
            Twins.bad("13 a " + cell, x -> x.walks(cell, 0, 1));
            Twins.bad("13 b " + cell, x -> x.walks(0, cell, 1));
            Twins.bad("13 b " + cell + ", no steps", x -> x.walks(0, cell, 0));
        }
    }

    /** "WALKS of n steps (0 to 30)" */
    private static void noSuchSteps() {
        for (int n : Edges.outside(0, 30)) {
            Twins.bad("13 n " + n, x -> x.walks(0, 0, n));
        }
    }

    private static void noSteps() {
        Twins.asks("13 no steps, to itself", x -> x.walks(18, 18, 0), 1);
        Twins.asks("13 no steps, to another one", x -> x.walks(18, 17, 0), 0);
        Twins.asks("13 one step, to itself", x -> x.walks(0, 0, 1), 0);
        Twins.asks("13 one step, side by side", x -> x.walks(7, 18, 1), 1);
        Twins.asks("13 two steps, to itself", x -> x.walks(0, 0, 2), 6);
    }

    private static void ringNoughtAlone() {
        FarBoards x = Edges.on(10, 0);
        Due.due("13 alone, no steps", x.walks(0, 0, 0), 1);
        for (int n = 1; n <= 30; n++) Due.due("13 alone, " + n + " steps", x.walks(0, 0, n), 0);
        Due.due("13 alone, 31 steps", x.walks(0, 0, 31), Due.BAD);
    }

    /** "how many, modulo 1000000007": the last number of steps whose count is told as it is, and all behind it. */
    private static void acrossTheModulus() {
        for (int[] board : new int[][] {{6, 5, 91}, {7, 4, 232}, {9, 3, 271}, {10, 2, 71}}) {
            Model m = new Model();
            m.board(board[0], board[1]);
            FarBoards x = Edges.on(board[0], board[1]);
            BigInteger[] row = new BigInteger[board[2]];
            Arrays.fill(row, BigInteger.ZERO);
            row[1] = BigInteger.ONE;
            int beyond = 0;
            for (int n = 0; n <= 30; n++) {
                for (int b : new int[] {0, 1, 2, board[2] - 1}) {
                    long want = row[b].mod(MODULUS).longValue();
                    Due.due("13 walks(1, " + b + ", " + n + ") on " + board[0] + "/" + board[1], x.walks(1, b, n), want);
                    beyond += row[b].compareTo(MODULUS) >= 0 ? 1 : 0;
                }
                row = stepped(m, board[0], row);
            }
            Due.holds("13 counts beyond the modulus were seen", beyond > 40);
        }
    }

    private static BigInteger[] stepped(Model m, int p, BigInteger[] row) {
        BigInteger[] next = new BigInteger[row.length];
        for (int c = 0; c < row.length; c++) {
            next[c] = BigInteger.ZERO;
            for (int s = 0; s < p; s++) {
                int d = m.side(c, s);
                if (d != Due.NONE) next[c] = next[c].add(row[d]);
            }
        }
        return next;
    }
}
