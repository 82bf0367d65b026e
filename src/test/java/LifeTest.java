/** Promises 25 to 30: live, steps, living, turned, alike, orbits. */
public final class LifeTest {
    public static void main(String[] args) {
        living();
        rules();
        refusals();
        for (int[] board : new int[][] {{6, 5}, {7, 2}, {7, 4}, {8, 3}, {9, 3}, {10, 2}, {10, 0}}) {
            turns(board[0], board[1]);
        }
        symmetric();
        Due.end();
    }

    private static void living() {
        FarBoards x = new FarBoards();
        Due.due("25 cell -1", x.live(-1, 0), Due.BAD);
        Due.due("25 cell 29", x.live(29, 0), Due.BAD);
        Due.due("25 v -1", x.live(0, -1), Due.BAD);
        Due.due("25 v 2", x.live(0, 2), Due.BAD);
        Due.due("25 none at first", x.live(28, 1), 0);
        Due.due("25 lives", x.live(28, 1), 1);
        Due.due("25 does not", x.live(28, 0), 1);
        Due.due("25 did not", x.live(28, 1), 0);
        x.live(0, 1);
        x.live(7, 1);
        x.live(8, 1);
        Due.due("27 ring 0", x.living(0), 1);
        Due.due("27 ring 1", x.living(1), 1);
        Due.due("27 ring 2", x.living(2), 2);
        Due.due("27 in all", x.living(Due.NONE), 4);
        Due.due("27 ring 3", x.living(3), Due.BAD);
        Due.due("27 ring -1", x.living(-1), Due.BAD);
    }

    private static void rules() {
        FarBoards x = new FarBoards();
        Due.due("26 born 2048", x.steps(2048, 0, 1), Due.BAD);
        Due.due("26 born -1", x.steps(-1, 0, 1), Due.BAD);
        Due.due("26 stay 2048", x.steps(0, 2048, 1), Due.BAD);
        Due.due("26 stay -1", x.steps(0, -1, 1), Due.BAD);
        Due.due("26 n 0", x.steps(0, 0, 0), Due.BAD);
        Due.due("26 n 51", x.steps(0, 0, 51), Due.BAD);
        Due.due("26 none is born of nothing", x.steps(2046, 2047, 50), 0);
        Due.due("26 born with none beside", x.steps(1, 0, 1), 29);
        Due.due("26 of all none stays", x.steps(1, 0, 1), 0);
        Due.due("26 to and fro", x.steps(1, 0, 49), 29);
        Due.due("26 seven beside: the inner ones stay", x.steps(0, 1 << 7, 1), 8);
        x.board(6, 1);
        x.live(0, 1);
        Due.due("26 one beside: born, and the first stays with none", x.steps(2, 1, 1), 7);
        Due.due("26 six beside", x.steps(0, 1 << 6, 1), 1);
        x.live(1, 1);
        x.live(0, 0);
        Due.due("26 all at once, not one by one", x.steps(2, 0, 1), 3);
        Due.due("26 the first", x.live(0, 0), 1);
        Due.due("26 one side", x.live(2, 0), 1);
        Due.due("26 other side", x.live(6, 0), 1);
        x.board(10, 1);
        x.steps(1, 0, 1);
        Due.due("26 ten beside", x.steps(0, 1 << 10, 1), 1);
        Due.due("26 it is the first", x.living(0), 1);
        x.board(10, 2);
        x.live(1, 1);
        FarBoards y = new FarBoards();
        y.board(10, 2);
        y.live(1, 1);
        for (int i = 0; i < 7; i++) {
            y.steps(6, 12, 1);
        }
        Due.due("26 seven at once", x.steps(6, 12, 7), y.count(7));
        for (int c = 0; c < 71; c++) {
            Due.due("26 alike " + c, x.live(c, 0), y.live(c, 0));
        }
    }

    private static void refusals() {
        FarBoards x = new FarBoards();
        Due.due("28 cell -1", x.turned(-1, 0), Due.BAD);
        Due.due("28 cell 29", x.turned(29, 0), Due.BAD);
        Due.due("28 t -1", x.turned(0, -1), Due.BAD);
        Due.due("28 t 7", x.turned(0, 7), Due.BAD);
        Due.due("29 t -1", x.alike(-1), Due.BAD);
        Due.due("29 t 7", x.alike(7), Due.BAD);
        Due.due("30 m -1", x.orbits(-1), Due.BAD);
        Due.due("30 m 3", x.orbits(3), Due.BAD);
        Due.due("30 m NONE", x.orbits(Due.NONE), Due.BAD);
    }

    /** A turn keeps what lies at sides, turns add up, and the sets are found by following the turns. */
    private static void turns(int p, int r) {
        int cells = Edges.on(p, r).count(1);
        String on = " on " + p + "/" + r;
        for (int t = 0; t < p; t++) {
            for (int c = 0; c < cells; c++) {
                FarBoards x = Edges.on(p, r);
                int d = x.turned(c, t);
                Due.due("28 ring" + on, x.cell(d, 0), x.cell(c, 0));
                Due.due("28 turns add up" + on, x.turned(d, (p - t) % p), c);
                if (x.cell(c, 0) == 1) {
                    Due.due("28 ring 1" + on, d, 1 + (c - 1 + t) % p);
                }
                for (int s = 0; c > 0 && s < p; s++) {
                    int beside = x.side(c, s);
                    int want = beside == Due.NONE ? Due.NONE : x.turned(beside, t);
                    Due.due("28 sides" + on, x.side(d, s), want);
                }
            }
        }
        FarBoards x = Edges.on(p, r);
        Due.due("28 the first cell stays" + on, x.turned(0, 1), 0);
        int sets = 0;
        for (int ring = 0, c = 0; ring <= r; ring++) {
            for (; c < cells && x.cell(c, 0) == ring; c++) {
                x = Edges.on(p, r);
                boolean least = true;
                for (int t = 0; t < p; t++) {
                    least = least && x.turned(c, t) >= c;
                }
                sets += least ? 1 : 0;
            }
            Due.due("30 orbits(" + ring + ")" + on, x.orbits(ring), sets);
        }
    }

    private static void symmetric() {
        FarBoards x = new FarBoards();
        x.board(8, 2);
        for (int t = 0; t < 8; t++) {
            Due.due("29 nothing lives", x.alike(t), 1);
        }
        x.live(0, 1);
        Due.due("29 the first cell alone", x.alike(3), 1);
        x.live(2, 1);
        x.live(6, 1);
        Due.due("29 by half", x.alike(4), 1);
        Due.due("29 by a quarter", x.alike(2), 0);
        Due.due("29 by none", x.alike(0), 1);
        x.live(9, 1);
        Due.due("29 not by half now", x.alike(4), 0);
        x.live(x.turned(9, 4), 1);
        Due.due("29 by half again", x.alike(4), 1);
        x.live(4, 1);
        x.live(8, 1);
        x.live(x.turned(9, 2), 1);
        x.live(x.turned(9, 6), 1);
        Due.due("29 by a quarter now", x.alike(2), 1);
        Due.due("29 and back", x.alike(6), 1);
        Due.due("29 by one", x.alike(1), 0);
    }
}
