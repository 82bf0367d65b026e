/** Promises 1 (a new object) and 6 to 10 (board, cell, side, by, grown). */
public final class BoardTest {
    public static void main(String[] args) {
        newObject();
        sizes();
        anew();
        refusals();
        hexagons();
        for (int p = 6; p <= 10; p++) {
            for (int r = 0; r <= 5; r++) {
                if (new FarBoards().board(p, r) != Due.FULL) {
                    corners(p, r);
                    ringsAndParents(p, r);
                }
            }
        }
        growth();
        Due.end();
    }

    private static void newObject() {
        FarBoards x = new FarBoards();
        Due.due("1 cells", x.count(1), 29);
        Due.due("1 rings", x.count(2), 2);
        Due.due("1 sides", x.count(3), 7);
        for (int what = 0; what < 4; what++) {
            Due.due("1 mouse " + what, x.mouse(what), 0);
        }
        Due.due("1 none live", x.count(7), 0);
        Due.due("1 tape", x.count(8), 0);
        Due.due("1 fault", x.fault(), 0);
        Due.due("1 trace", x.trace(0), Due.NONE);
        Due.due("1 colour", x.paint(28, 0), 0);
        Due.due("1 constants", FarBoards.NONE + FarBoards.BAD + FarBoards.STATE + FarBoards.FULL, -4000006);
        Due.due("1 STATE", FarBoards.STATE, -1000002);
    }

    private static void sizes() {
        int[][] want = {
            {1, 7, 19, 37, 61, 91},
            {1, 8, 29, 85, 232, Due.FULL},
            {1, 9, 41, 161, Due.FULL, Due.FULL},
            {1, 10, 55, 271, Due.FULL, Due.FULL},
            {1, 11, 71, Due.FULL, Due.FULL, Due.FULL},
        };
        for (int p = 6; p <= 10; p++) {
            for (int r = 0; r <= 5; r++) {
                Due.due("6 board(" + p + ", " + r + ")", new FarBoards().board(p, r), want[p - 6][r]);
            }
        }
    }

    private static void anew() {
        FarBoards x = new FarBoards();
        x.sheet(3, 0, 2);
        x.paint(0, 3);
        x.live(5, 1);
        x.put(28, 6);
        Due.runText(x, "fff");
        x.ask(1, 0);
        Due.runText(x, "0f");
        x.feed('f', 1);
        Due.due("6 FULL", x.board(10, 3), Due.FULL);
        Due.due("6 FULL changes no colour", x.paint(0, 3), 3);
        Due.due("6 FULL changes no life", x.count(7), 1);
        Due.due("6 FULL changes no cells", x.count(1), 29);
        Due.due("6 anew", x.board(8, 1), 9);
        Due.due("6 colour", x.paint(0, 0), 0);
        Due.due("6 none live", x.count(7), 0);
        for (int what = 0; what < 4; what++) {
            Due.due("6 mouse " + what, x.mouse(what), 0);
        }
        Due.due("6 the sheets stay", x.count(0), 1);
        Due.due("6 the tape stays", x.count(8), 1);
        Due.due("6 the trace stays", x.trace(0), 11);
        Due.due("6 the fault stays", x.fault(), 2);
        Due.due("6 sides", x.count(3), 8);
        Due.due("6 rings", x.count(2), 1);
        Due.due("6 of like p and r anew, too", x.live(8, 1), 0);
        Due.due("6 again", x.board(8, 1), 9);
        Due.due("6 none live again", x.living(1), 0);
    }

    private static void refusals() {
        FarBoards x = new FarBoards();
        Due.due("6 p 5", x.board(5, 2), Due.BAD);
        Due.due("6 p 11", x.board(11, 2), Due.BAD);
        Due.due("6 r -1", x.board(7, -1), Due.BAD);
        Due.due("6 r 6", x.board(7, 6), Due.BAD);
        Due.due("6 BAD ahead of FULL", x.board(10, 6), Due.BAD);
        Due.due("7 cell -1", x.cell(-1, 0), Due.BAD);
        Due.due("7 cell 29", x.cell(29, 0), Due.BAD);
        Due.due("7 what -1", x.cell(0, -1), Due.BAD);
        Due.due("7 what 6", x.cell(0, 6), Due.BAD);
        Due.due("8 cell -1", x.side(-1, 0), Due.BAD);
        Due.due("8 cell 29", x.side(29, 0), Due.BAD);
        Due.due("8 side -1", x.side(0, -1), Due.BAD);
        Due.due("8 side 7", x.side(0, 7), Due.BAD);
        Due.due("9 cell -1", x.by(-1, 0), Due.BAD);
        Due.due("9 other 29", x.by(0, 29), Due.BAD);
        Due.due("9 other -1000000", x.by(8, Due.NONE), Due.BAD);
        Due.due("9 itself", x.by(0, 0), Due.NONE);
        Due.due("9 not beside", x.by(1, 3), Due.NONE);
        Due.due("9 by 1 of 0", x.by(0, 1), 0);
        Due.due("9 by 2 of 0", x.by(0, 2), 6);
        Due.due("9 by 28 of 1", x.by(1, 28), 5);
    }

    /** Six sides, two rings, written out by hand from the rule. */
    private static void hexagons() {
        FarBoards x = new FarBoards();
        x.board(6, 2);
        int n = Due.NONE;
        int[][] want = {
            {1, 6, 5, 4, 3, 2},
            {0, 2, 8, 7, 18, 6}, {0, 3, 10, 9, 8, 1}, {0, 4, 12, 11, 10, 2},
            {0, 5, 14, 13, 12, 3}, {0, 6, 16, 15, 14, 4}, {0, 1, 18, 17, 16, 5},
            {1, 8, n, n, n, 18}, {1, 2, 9, n, n, 7}, {2, 10, n, n, n, 8},
        };
        for (int c = 0; c < want.length; c++) {
            for (int s = 0; s < 6; s++) {
                Due.due("8 side(" + c + ", " + s + ") of 6", x.side(c, s), want[c][s]);
            }
        }
        x.board(6, 3);
        int[] paired = {1, 2, 9, 21, 20, 7};
        for (int s = 0; s < 6; s++) {
            Due.due("8 a PAIRED one without OWN ones, " + s, x.side(8, s), paired[s]);
        }
        x.board(9, 0);
        for (int s = 0; s < 9; s++) {
            Due.due("8 a lone board has EDGES all round", x.side(0, s), n);
        }
        Due.due("7 none at its sides", x.cell(0, 5), 0);
    }

    /** Three CELLS at each corner, all turning one way round. */
    private static void corners(int p, int r) {
        int cells = Edges.on(p, r).count(1);
        for (int c = 0; c < cells; c++) {
            FarBoards x = Edges.on(p, r);
            String at = " of cell " + c + " on " + p + "/" + r;
            for (int s = 0; s < p; s++) {
                int a = x.side(c, s);
                int b = x.side(c, (s + 1) % p);
                if (a != Due.NONE) {
                    Due.due("9 by back" + at, x.side(a, x.by(a, c)), c);
                    Due.due("9 by" + at, x.by(c, a), s);
                }
                if (a != Due.NONE && b != Due.NONE) {
                    Due.due("8 corner" + at, x.side(a, (x.by(a, c) + p - 1) % p), b);
                }
                boolean edge = x.cell(c, 0) == r && (r == 0 || s > x.cell(c, 1) && s < p - 1);
                Due.due("8 edge" + at, a == Due.NONE ? 1 : 0, edge ? 1 : 0);
            }
        }
    }

    private static void ringsAndParents(int p, int r) {
        int c = 0;
        FarBoards x = Edges.on(p, r);
        for (int ring = 0; ring <= r; ring++) {
            int size = x.grown(p, ring, 0);
            int paired = 0;
            for (int place = 0; place < size; place++) {
                x = Edges.on(p, r);
                Due.due("7 ring", x.cell(c, 0), ring);
                Due.due("7 place", x.cell(c, 4), place);
                int parents = x.cell(c, 1);
                Due.due("7 first parent", x.cell(c, 2), parents > 0 ? x.side(c, 0) : Due.NONE);
                Due.due("7 other parent", x.cell(c, 3), parents > 1 ? x.side(c, 1) : Due.NONE);
                int edges = 0;
                for (int s = 0; s < p; s++) {
                    edges += x.side(c, s) == Due.NONE ? 1 : 0;
                }
                Due.due("7 at its sides", x.cell(c, 5), p - edges);
                paired += parents == 2 ? 1 : 0;
                c++;
            }
            Due.due("10 paired as built", x.grown(p, ring, 1), paired);
            Due.due("10 lone as built", x.grown(p, ring, 2), ring == 0 ? 0 : size - paired);
            Due.due("10 together as built", x.grown(p, ring, 3), c);
        }
        Due.due("7 last parents", r < 2 ? c : x.cell(c - 1, 3), r < 2 ? c : c - x.grown(p, r, 0) - x.grown(p, r - 1, 0));
    }

    private static void growth() {
        FarBoards x = new FarBoards();
        Due.due("10 p 5", x.grown(5, 0, 0), Due.BAD);
        Due.due("10 p 11", x.grown(11, 0, 0), Due.BAD);
        Due.due("10 n -1", x.grown(7, -1, 0), Due.BAD);
        Due.due("10 n 61", x.grown(7, 61, 0), Due.BAD);
        Due.due("10 what -1", x.grown(7, 0, -1), Due.BAD);
        Due.due("10 what 4", x.grown(7, 0, 4), Due.BAD);
        for (int n = 1; n <= 60; n++) {
            Due.due("10 hexagons", x.grown(6, n, 0), 6L * n);
            Due.due("10 hexagons together", x.grown(6, n, 3), 1 + 3L * n * (n + 1));
        }
        java.math.BigInteger modulus = java.math.BigInteger.valueOf(1000000007L);
        for (int p = 6; p <= 10; p++) {
            x = new FarBoards();
            // Ring sizes keep a(n + 1) = (p - 4) a(n) - a(n - 1), another way to the same numbers.
            java.math.BigInteger before = java.math.BigInteger.valueOf(p);
            java.math.BigInteger size = java.math.BigInteger.valueOf((long) p * (p - 4));
            for (int n = 2; n <= 60; n++) {
                String at = "(" + p + ", " + n + ")";
                Due.due("10 grown" + at, x.grown(p, n, 0), size.mod(modulus).longValue());
                Due.due("10 paired" + at, x.grown(p, n, 1), before.mod(modulus).longValue());
                Due.due("10 lone" + at, x.grown(p, n, 2), size.subtract(before).mod(modulus).longValue());
                java.math.BigInteger next = size.multiply(java.math.BigInteger.valueOf(p - 4)).subtract(before);
                before = size;
                size = next;
            }
        }
    }
}
