/** Promises 20 to 24: paint, paints, clashes, coloured, found. */
public final class ColoursTest {
    public static void main(String[] args) {
        painting();
        fromSheets();
        clashing();
        refusals();
        for (int p = 6; p <= 10; p++) {
            for (int r = 0; r <= 2; r++) {
                counting(p, r);
            }
        }
        Due.end();
    }

    private static void painting() {
        FarBoards x = new FarBoards();
        Due.due("20 cell -1", x.paint(-1, 0), Due.BAD);
        Due.due("20 cell 29", x.paint(29, 0), Due.BAD);
        Due.due("20 v -1", x.paint(0, -1), Due.BAD);
        Due.due("20 v 4", x.paint(0, 4), Due.BAD);
        Due.due("20 first 0", x.paint(28, 3), 0);
        Due.due("20 rubbed out", x.paint(28, Due.NONE), 3);
        Due.due("20 BAD changes nothing", x.paint(28, 4), Due.BAD);
        Due.due("20 again", x.paint(28, 1), Due.NONE);
    }

    private static void fromSheets() {
        FarBoards x = new FarBoards();
        x.sheet(0, 1, 4);
        for (int i = 0; i < 4; i++) {
            x.set(0, i, 3 - i);
        }
        Due.due("21 cell -1", x.paints(-1, 0, 0, 1), Due.BAD);
        Due.due("21 cell 29", x.paints(29, 0, 0, 1), Due.BAD);
        Due.due("21 n 0", x.paints(0, 0, 0, 0), Due.BAD);
        Due.due("21 n -1", x.paints(0, 0, 0, -1), Due.BAD);
        Due.due("21 beyond the last", x.paints(26, 0, 0, 4), Due.BAD);
        Due.due("21 n most", x.paints(28, 0, 0, Integer.MAX_VALUE), Due.BAD);
        Due.due("21 sheet -1", x.paints(0, -1, 0, 1), Due.BAD);
        Due.due("21 sheet 8", x.paints(0, 8, 0, 1), Due.BAD);
        Due.due("21 NULL", x.paints(0, 1, -1, 1), Due.NULL_FOUND);
        Due.due("21 BAD ahead of NULL", x.paints(0, 1, 0, 0), Due.BAD);
        Due.due("21 i -1", x.paints(0, 0, -1, 1), Due.PLACE_FOUND);
        Due.due("21 i 4", x.paints(0, 0, 4, 1), Due.PLACE_FOUND);
        Due.due("21 i most", x.paints(0, 0, Integer.MAX_VALUE, 1), Due.PLACE_FOUND);
        Due.due("21 beyond the end", x.paints(0, 0, 2, 3), Due.PLACE_FOUND);
        Due.due("21 up to the last", x.paints(25, 0, 0, 4), 4);
        for (int i = 0; i < 4; i++) {
            Due.due("21 came " + i, x.paint(25 + i, 0), 3 - i);
        }
        Due.due("21 from within", x.paints(0, 0, 1, 2), 2);
        Due.due("21 first", x.paint(0, 0), 2);
        Due.due("21 second", x.paint(1, 0), 1);
        x.set(0, 3, 4);
        Due.due("21 an ITEM above", x.paints(0, 0, 0, 4), Due.BAD);
        Due.due("21 changed nothing", x.paint(0, 0), 0);
        Due.due("21 PLACE ahead of an ITEM", x.paints(0, 0, 3, 2), Due.PLACE_FOUND);
        x.set(0, 3, -1);
        Due.due("21 an ITEM below", x.paints(0, 0, 3, 1), Due.BAD);
        x.sheet(0, 2, 1);
        x.set(0, 0, Due.NONE);
        Due.due("21 NONE is no ITEM of it", x.paints(0, 0, 0, 1), Due.BAD);
    }

    private static void clashing() {
        int[][] want = {{6, 0, 0}, {6, 1, 12}, {7, 1, 14}, {7, 2, 63}, {10, 1, 20}};
        for (int[] w : want) {
            FarBoards x = new FarBoards();
            x.board(w[0], w[1]);
            Due.due("22 all alike on " + w[0] + "/" + w[1], x.clashes(), w[2]);
        }
        FarBoards x = new FarBoards();
        x.board(6, 1);
        x.paint(0, 1);
        Due.due("22 the ring alone", x.clashes(), 6);
        x.paint(3, Due.NONE);
        Due.due("22 a rubbed one", x.clashes(), 4);
        x.paint(4, Due.NONE);
        Due.due("22 two rubbed ones side by side", x.clashes(), 3);
        x.paint(1, 1);
        Due.due("22 with the first cell", x.clashes(), 2);
    }

    private static void refusals() {
        FarBoards x = new FarBoards();
        Due.due("23 m 0", x.coloured(0, 1), Due.BAD);
        Due.due("23 m 17", x.coloured(17, 1), Due.BAD);
        Due.due("23 k 0", x.coloured(1, 0), Due.BAD);
        Due.due("23 k 5", x.coloured(1, 5), Due.BAD);
        Due.due("24 m 0", x.found(0, 1, 0), Due.BAD);
        Due.due("24 m 17", x.found(17, 1, 0), Due.BAD);
        Due.due("24 k 0", x.found(1, 0, 0), Due.BAD);
        Due.due("24 k 5", x.found(1, 5, 0), Due.BAD);
        Due.due("24 i -1", x.found(3, 3, -1), Due.BAD);
        Due.due("24 i 3", x.found(3, 3, 3), Due.BAD);
        Due.due("24 BAD ahead of NONE", x.found(3, 1, 3), Due.BAD);
        Due.due("24 none", x.found(3, 1, 2), Due.NONE);
        x.board(6, 1);
        Due.due("23 more than there are", x.coloured(8, 4), Due.BAD);
        Due.due("23 all there are", x.coloured(7, 3), 6);
        Due.due("24 more than there are", x.found(8, 4, 0), Due.BAD);
        x.board(6, 0);
        Due.due("23 one cell", x.coloured(1, 3), 3);
        x.paint(0, 2);
        Due.due("24 the board's colours are not asked", x.found(1, 1, 0), 0);
    }

    /** By trying each colour of each CELL, none passed over. */
    private static void counting(int p, int r) {
        int cells = Edges.on(p, r).count(1);
        for (int k = 1; k <= 4; k++) {
            for (int m = 1; m <= Math.min(16, cells); m++) {
                FarBoards x = Edges.on(p, r);
                String of = "(" + m + ", " + k + ") on " + p + "/" + r;
                boolean[][] beside = new boolean[m][m];
                for (int a = 0; a < m; a++) {
                    for (int b = 0; b < m; b++) {
                        beside[a][b] = x.by(a, b) != Due.NONE;
                    }
                }
                int[] first = new int[m];
                java.util.Arrays.fill(first, Due.NONE);
                Due.due("23 coloured" + of, x.coloured(m, k), rows(beside, new int[m], 0, k, first));
                for (int i = 0; i < m; i++) {
                    Due.due("24 found" + of + " at " + i, x.found(m, k, i), first[i]);
                }
            }
        }
    }

    private static int rows(boolean[][] beside, int[] row, int at, int k, int[] first) {
        if (at == row.length) {
            if (first[0] == Due.NONE) {
                System.arraycopy(row, 0, first, 0, at);
            }
            return 1;
        }
        int sum = 0;
        for (int v = 0; v < k; v++) {
            boolean free = true;
            for (int b = 0; b < at; b++) {
                free = free && !(beside[at][b] && row[b] == v);
            }
            if (free) {
                row[at] = v;
                sum += rows(beside, row, at + 1, k, first);
            }
        }
        return sum;
    }
}
