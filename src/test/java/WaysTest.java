import java.math.BigInteger;

/** Promises 11 to 14: far, way, walks, around. */
public final class WaysTest {
    private static final int[][] BOARDS = {{6, 0}, {6, 3}, {7, 2}, {8, 2}, {9, 1}, {10, 2}};

    public static void main(String[] args) {
        refusals();
        for (int[] board : BOARDS) {
            int[][] sides = sides(board[0], board[1]);
            int[][] far = distances(sides);
            shortest(board, sides, far);
            aroundEach(board, far);
        }
        longBoards();
        walking();
        Due.end();
    }

    private static void refusals() {
        FarBoards x = new FarBoards();
        Due.due("11 a -1", x.far(-1, 0, 0), Due.BAD);
        Due.due("11 b 29", x.far(0, 29, 0), Due.BAD);
        Due.due("11 what -1", x.far(0, 0, -1), Due.BAD);
        Due.due("11 what 2", x.far(0, 0, 2), Due.BAD);
        Due.due("12 a 29", x.way(29, 0, 0), Due.BAD);
        Due.due("12 b -1", x.way(0, -1, 0), Due.BAD);
        Due.due("12 i -1", x.way(0, 0, -1), Due.BAD);
        Due.due("12 i most", x.way(0, 28, Integer.MAX_VALUE), Due.NONE);
        Due.due("13 a 29", x.walks(29, 0, 0), Due.BAD);
        Due.due("13 b -1", x.walks(0, -1, 0), Due.BAD);
        Due.due("13 n -1", x.walks(0, 0, -1), Due.BAD);
        Due.due("13 n 31", x.walks(0, 0, 31), Due.BAD);
        Due.due("14 cell 29", x.around(29, 0), Due.BAD);
        Due.due("14 cell -1", x.around(-1, 0), Due.BAD);
        Due.due("14 n -1", x.around(0, -1), Due.BAD);
        Due.due("14 n 21", x.around(0, 21), Due.BAD);
        Due.due("14 n 20", x.around(0, 20), 0);
    }

    /** What is at each side of each CELL, an object for each of them. */
    private static int[][] sides(int p, int r) {
        int[][] sides = new int[Edges.on(p, r).count(1)][p];
        for (int c = 0; c < sides.length; c++) {
            FarBoards x = Edges.on(p, r);
            for (int s = 0; s < p; s++) {
                sides[c][s] = x.side(c, s);
            }
        }
        return sides;
    }

    /** By going through every CELL between two others, not by rings of neighbours. */
    private static int[][] distances(int[][] sides) {
        int cells = sides.length;
        int[][] far = new int[cells][cells];
        for (int a = 0; a < cells; a++) {
            java.util.Arrays.fill(far[a], 9999);
            for (int b : sides[a]) {
                if (b != Due.NONE) far[a][b] = 1;
            }
            far[a][a] = 0;
        }
        for (int k = 0; k < cells; k++) {
            for (int a = 0; a < cells; a++) {
                for (int b = 0; b < cells; b++) {
                    far[a][b] = Math.min(far[a][b], far[a][k] + far[k][b]);
                }
            }
        }
        return far;
    }

    private static void shortest(int[] board, int[][] sides, int[][] far) {
        for (int a = 0; a < far.length; a++) {
            for (int b = 0; b < far.length; b++) {
                FarBoards x = Edges.on(board[0], board[1]);
                String of = "(" + a + ", " + b + ")";
                Due.due("11 far" + of, x.far(a, b, 0), far[a][b]);
                Due.due("11 ways" + of, x.far(a, b, 1), rows(sides, far, a, b));
                int cell = a;
                for (int i = 0; i <= far[a][b]; i++) {
                    Due.due("12 way" + of + " at " + i, x.way(a, b, i), cell);
                    cell = firstNearer(sides, far, cell, b);
                }
                Due.due("12 way" + of + " ended", x.way(a, b, far[a][b] + 1), Due.NONE);
            }
        }
    }

    private static int rows(int[][] sides, int[][] far, int a, int b) {
        if (a == b) {
            return 1;
        }
        int sum = 0;
        for (int c : sides[a]) {
            sum += c != Due.NONE && far[c][b] < far[a][b] ? rows(sides, far, c, b) : 0;
        }
        return sum;
    }

    private static int firstNearer(int[][] sides, int[][] far, int cell, int b) {
        for (int c : sides[cell]) {
            if (c != Due.NONE && far[c][b] < far[cell][b]) {
                return c;
            }
        }
        return cell;
    }

    private static void aroundEach(int[] board, int[][] far) {
        for (int a = 0; a < far.length; a++) {
            FarBoards x = Edges.on(board[0], board[1]);
            for (int n = 0; n <= 20; n++) {
                int there = 0;
                for (int b = 0; b < far.length; b++) {
                    there += far[a][b] == n ? 1 : 0;
                }
                Due.due("14 around(" + a + ", " + n + ")", x.around(a, n), there);
            }
        }
    }

    private static void longBoards() {
        FarBoards x = new FarBoards();
        x.board(6, 5);
        // Two opposite corners of a hexagon: one row only; beside them: as many as the ways to order the turns.
        Due.due("11 far of corners", x.far(61, 61 + 15, 0), distances(sides(6, 5))[61][76]);
        x.board(9, 3);
        Due.due("11 far over the middle", x.far(55, 170, 0), 6);
        Due.due("14 all of the last ring", x.around(0, 3), 216);
    }

    private static void walking() {
        for (int[] board : new int[][] {{6, 0}, {6, 1}, {7, 2}, {10, 1}}) {
            int[][] sides = sides(board[0], board[1]);
            int cells = sides.length;
            BigInteger[] row = new BigInteger[cells];
            java.util.Arrays.fill(row, BigInteger.ZERO);
            int from = cells - 1;
            row[from] = BigInteger.ONE;
            for (int n = 0; n <= 30; n++) {
                FarBoards x = Edges.on(board[0], board[1]);
                for (int b = 0; b < cells; b++) {
                    long want = row[b].mod(BigInteger.valueOf(1000000007)).longValue();
                    Due.due("13 walks(" + from + ", " + b + ", " + n + ")", x.walks(from, b, n), want);
                }
                row = stepped(sides, row);
            }
        }
    }

    private static BigInteger[] stepped(int[][] sides, BigInteger[] row) {
        BigInteger[] next = new BigInteger[row.length];
        java.util.Arrays.fill(next, BigInteger.ZERO);
        for (int a = 0; a < row.length; a++) {
            for (int b : sides[a]) {
                if (b != Due.NONE) {
                    next[b] = next[b].add(row[a]);
                }
            }
        }
        return next;
    }
}
