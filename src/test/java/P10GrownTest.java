import java.math.BigInteger;

/** Promise 10, grown: RINGS 0 to 60, whatever is built, modulo 1000000007. */
public final class P10GrownTest {
    private static final BigInteger MODULUS = BigInteger.valueOf(1000000007L);

    public static void main(String[] args) {
        Due.part(Due.Part.ORDINARY_USE);
        ordinaryUse();
        Due.part(Due.Part.EDGES);
        ringNought();
        firstRing();
        everyRing();
        acrossTheModulus();
        whateverIsBuilt();
        Due.part(Due.Part.WRONG_NUMBERS);
        noSuchSides();
        noSuchRing();
        noSuchQuestion();
        Due.endOfPromise();
    }

    private static void ordinaryUse() {
        row("10 RING 2", 8, 2, 32, 8, 24, 41);
        // 24 LONE ones have 3 OWN ones each, 8 PAIRED ones 2 each, and each of the 32 shares one.
        row("10 RING 3", 8, 3, 120, 32, 88, 161);
    }

    /** "BAD: p (6 to 10)" */
    private static void noSuchSides() {
        for (int p : Edges.outside(6, 10)) {
            Twins.bad("10 p " + p, x -> x.grown(p, 1, 0));
            Twins.bad("10 p " + p + ", RING 0", x -> x.grown(p, 0, 0));
        }
    }

    /** "n 0 to 60" */
    private static void noSuchRing() {
        for (int n : Edges.outside(0, 60)) {
            for (int what = 0; what <= 3; what++) {
                int asked = what;
                Twins.bad("10 n " + n + ", " + what, x -> x.grown(6, n, asked));
            }
        }
    }

    private static void noSuchQuestion() {
        for (int what : Edges.outside(0, 3)) {
            Twins.bad("10 what " + what, x -> x.grown(7, 2, what));
        }
    }

    private static void ringNought() {
        for (int p = 6; p <= 10; p++) row("10 RING 0", p, 0, 1, 0, 0, 1);
    }

    private static void firstRing() {
        for (int p = 6; p <= 10; p++) {
            row("10 RING 1", p, 1, p, 0, p, p + 1);
            row("10 RING 2", p, 2, p * (p - 4), p, p * (p - 5), 1 + p + p * (p - 4));
        }
        row("10 RING 60", 6, 60, 360, 354, 6, 10981);
    }

    private static void row(String name, int p, int n, int... want) {
        FarBoards x = new FarBoards();
        for (int what = 0; what <= 3; what++) {
            Due.due(name + " of " + p + " SIDES, " + what, x.grown(p, n, what), want[what]);
        }
    }

    /** Every RING by another way to the same numbers: size(n + 1) = (p - 4) size(n) - size(n - 1). */
    private static void everyRing() {
        for (int p = 6; p <= 10; p++) {
            FarBoards x = new FarBoards();
            BigInteger[] sizes = sizes(p);
            BigInteger together = BigInteger.ONE;
            for (int n = 1; n <= 60; n++) {
                String of = "(" + p + ", " + n + ")";
                BigInteger paired = n == 1 ? BigInteger.ZERO : sizes[n - 1];
                together = together.add(sizes[n]);
                Due.due("10 all" + of, x.grown(p, n, 0), told(sizes[n]));
                Due.due("10 PAIRED" + of, x.grown(p, n, 1), told(paired));
                Due.due("10 LONE" + of, x.grown(p, n, 2), told(sizes[n].subtract(paired)));
                Due.due("10 together" + of, x.grown(p, n, 3), told(together));
            }
        }
    }

    private static BigInteger[] sizes(int p) {
        BigInteger[] sizes = new BigInteger[61];
        sizes[0] = BigInteger.ZERO;
        sizes[1] = BigInteger.valueOf(p);
        for (int n = 2; n <= 60; n++) sizes[n] = sizes[n - 1].multiply(BigInteger.valueOf(p - 4)).subtract(sizes[n - 2]);
        return sizes;
    }

    private static long told(BigInteger v) {
        return v.mod(MODULUS).longValue();
    }

    /** "told modulo 1000000007": the last number that is told as it is, and the first that is not. */
    private static void acrossTheModulus() {
        for (int p = 7; p <= 10; p++) {
            FarBoards x = new FarBoards();
            BigInteger[] sizes = sizes(p);
            int n = 1;
            while (sizes[n].compareTo(MODULUS) < 0) n++;
            Due.due("10 the last one below, of " + p, x.grown(p, n - 1, 0), sizes[n - 1].longValueExact());
            Due.due("10 the first one above, of " + p, x.grown(p, n, 0), told(sizes[n]));
            Due.holds("10 the first one above is told smaller", x.grown(p, n, 0) < sizes[n].longValueExact());
        }
    }

    /** "by the rule above, whatever is built" */
    private static void whateverIsBuilt() {
        for (int[] board : Edges.BOARDS) {
            FarBoards x = Edges.on(board[0], board[1]);
            Due.due("10 on " + board[0] + "/" + board[1], x.grown(10, 60, 0), 999201251);
            Due.due("10 what is built, RING by RING together", x.grown(board[0], board[1], 3), board[2]);
        }
        Twins.asks("10 beyond 400 CELLS nothing is built", x -> x.grown(10, 3, 3), 421);
    }
}
