/** Promises 31 to 36: kind, as, ask, trace, count, status. */
public final class AskedTest {
    public static void main(String[] args) {
        refusals();
        kinds();
        taken();
        asked();
        traces();
        counts();
        Due.end();
    }

    private static void refusals() {
        FarBoards x = new FarBoards();
        Due.due("31 cell -1", x.kind(-1), Due.BAD);
        Due.due("31 cell 29", x.kind(29), Due.BAD);
        Due.due("32 cell -1", x.as(-1, 0), Due.BAD);
        Due.due("32 cell 29", x.as(29, 0), Due.BAD);
        Due.due("32 kind -1", x.as(0, -1), Due.BAD);
        Due.due("32 kind 4", x.as(0, 4), Due.BAD);
        Due.due("33 cell -1", x.ask(-1, 0), Due.BAD);
        Due.due("33 cell 29", x.ask(29, 0), Due.BAD);
        Due.due("33 what -1", x.ask(0, -1), Due.BAD);
        Due.due("33 what 2", x.ask(0, 2), Due.BAD);
        Due.due("34 -1", x.trace(-1), Due.NONE);
        Due.due("34 most", x.trace(Integer.MAX_VALUE), Due.NONE);
        Due.due("34 16", x.trace(16), Due.NONE);
        Due.due("35 -1", x.count(-1), Due.BAD);
        Due.due("35 9", x.count(9), Due.BAD);
    }

    private static void kinds() {
        FarBoards x = new FarBoards();
        x.board(7, 3);
        Due.due("31 CELL", x.kind(0), 0);
        Due.due("31 LONE", x.kind(1), 1);
        Due.due("31 LONE of ring 2", x.kind(8), 1);
        Due.due("31 PAIRED", x.kind(10), 2);
        Due.due("31 PAIRED, the last one", x.kind(28), 2);
        Due.due("31 RIM, lone", x.kind(29), 3);
        Due.due("31 RIM, paired", x.kind(84), 3);
        x.board(7, 1);
        Due.due("31 RIM of ring 1", x.kind(1), 3);
        Due.due("31 CELL of 1", x.kind(0), 0);
        x.board(7, 0);
        Due.due("31 ring 0 is no RIM", x.kind(0), 0);
    }

    private static void taken() {
        FarBoards x = new FarBoards();
        x.board(7, 3);
        int[] cells = {0, 1, 10, 29, 84};
        for (int c : cells) {
            for (int kind = 0; kind <= 3; kind++) {
                boolean fits = kind == 0 || kind == x.kind(c);
                Due.due("32 as(" + c + ", " + kind + ")", x.as(c, kind), fits ? x.cell(c, 0) : Due.KIND_FOUND);
                Due.due("36 status of it", x.status(), fits ? 0 : 3);
            }
        }
    }

    private static void asked() {
        FarBoards x = new FarBoards();
        x.board(7, 3);
        asked(x, 0, 0, 0, 10);
        asked(x, 0, 1, 0, 20);
        asked(x, 1, 0, 1 + 4, 11, 10);
        asked(x, 1, 1, 1001, 21, 20);
        asked(x, 9, 0, 2 + 4, 11, 10);
        asked(x, 9, 1, 1009, 21, 20);
        asked(x, 10, 0, 2 + 1 + 2, 12, 10);
        asked(x, 10, 1, 10 + 5, 22, 20, 12, 10);
        asked(x, 28, 0, 2 + 7 + 1, 12, 10);
        asked(x, 28, 1, 28 + 10, 22, 20, 12, 10);
        asked(x, 29, 0, 3 - 58, 13, 10, 23, 20);
        asked(x, 29, 1, 58, 23, 20);
        asked(x, 84, 0, 3 - 168, 13, 10, 23, 20);
        asked(x, 84, 1, 168, 23, 20);
        x.board(10, 2);
        asked(x, 10, 0, 1 + 7, 11, 10);
        x.board(6, 3);
        asked(x, 7, 0, 2 + 3, 11, 10);
        asked(x, 8, 0, 2 + 1 + 2, 12, 10);
    }

    private static void asked(FarBoards x, int cell, int what, int want, int... bodies) {
        String of = "ask(" + cell + ", " + what + ")";
        Due.due("33 " + of, x.ask(cell, what), want);
        for (int i = 0; i < 16; i++) {
            Due.due("34 trace " + i + " of " + of, x.trace(i), i < bodies.length ? bodies[i] : Due.NONE);
        }
    }

    private static void traces() {
        FarBoards x = new FarBoards();
        x.ask(8, 0);
        Due.due("34 four", x.trace(3), 20);
        x.ask(29, 0);
        x.ask(0, 2);
        Due.due("33 BAD leaves THE TRACE", x.trace(3), 20);
        x.ask(0, 0);
        Due.due("33 empty ahead of it", x.trace(1), Due.NONE);
        Due.due("34 the first", x.trace(0), 10);
    }

    private static void counts() {
        int[][] boards = {{7, 3, 85, 7 + 14, 7, 56}, {6, 2, 19, 6, 0, 12}, {8, 1, 9, 0, 0, 8}, {9, 0, 1, 0, 0, 0}};
        for (int[] b : boards) {
            FarBoards x = new FarBoards();
            x.board(b[0], b[1]);
            String on = " on " + b[0] + "/" + b[1];
            Due.due("35 cells" + on, x.count(1), b[2]);
            Due.due("35 rings" + on, x.count(2), b[1]);
            Due.due("35 sides" + on, x.count(3), b[0]);
            Due.due("35 LONE" + on, x.count(4), b[3]);
            Due.due("35 PAIRED" + on, x.count(5), b[4]);
            Due.due("35 RIM" + on, x.count(6), b[5]);
        }
        FarBoards x = new FarBoards();
        for (int i = 0; i < 8; i++) {
            x.sheet(i, i % 3, i);
            Due.due("35 sheets", x.count(0), i + 1);
        }
        x.drop(3);
        Due.due("35 one less", x.count(0), 7);
        x.live(3, 1);
        x.live(4, 1);
        Due.due("35 that live", x.count(7), 2);
        x.live(0, 1);
        x.live(28, 1);
        Due.due("35 that live, the first and the last", x.count(7), 4);
        x.feed(0, 3);
        Due.due("35 bytes", x.count(8), 3);
    }
}
