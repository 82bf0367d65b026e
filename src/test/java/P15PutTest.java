/** Promise 15, put. */
public final class P15PutTest {
    public static void main(String[] args) {
        Due.part(Due.Part.ORDINARY_USE);
        ordinaryUse();
        Due.part(Due.Part.EDGES);
        everyLastCellAndSide();
        countsAnew();
        ringNoughtAlone();
        Due.part(Due.Part.WRONG_NUMBERS);
        noSuchCell();
        noSuchSide();
        Due.endOfPromise();
    }

    private static void ordinaryUse() {
        FarBoards x = new FarBoards();
        Due.due("15 put", x.put(10, 2), 1);
        Due.due("15 at CELL 10", x.mouse(0), 10);
        Due.due("15 turned to side 2", x.mouse(1), 2);
        Due.runText(x, "f");
        Due.due("15 over that side to the CELL behind 10", x.mouse(0), 11);
        Due.due("15 put again", x.put(2, 1), 1);
        Due.due("15 at CELL 2", x.mouse(0), 2);
        Due.due("15 turned to side 1", x.mouse(1), 1);
    }

    /** "BAD" */
    private static void noSuchCell() {
        for (int cell : Edges.outside(0, 18)) {
            Twins.bad("15 CELL " + cell, x -> x.put(cell, 0));
        }
    }

    private static void noSuchSide() {
        for (int side : Edges.outside(0, 5)) {
            Twins.bad("15 side " + side, x -> x.put(0, side));
            Twins.bad("15 side " + side + " of the last CELL", x -> x.put(18, side));
        }
    }

    private static void everyLastCellAndSide() {
        for (int[] board : Edges.BOARDS) {
            int p = board[0];
            int last = board[2] - 1;
            FarBoards x = Edges.on(p, board[1]);
            Due.due("15 the last CELL and side", x.put(last, p - 1), 1);
            Due.due("15 at it", x.mouse(0), last);
            Due.due("15 turned to it", x.mouse(1), p - 1);
            Due.due("15 side p", x.put(0, p), Due.BAD);
            Due.due("15 the CELL behind the last", x.put(last + 1, 0), Due.BAD);
            Due.due("15 still at it", x.mouse(0), last);
            Due.due("15 still turned to it", x.mouse(1), p - 1);
            Due.due("15 the first CELL and side", x.put(0, 0), 1);
            Due.due("15 at that", x.mouse(0), 0);
            Due.due("15 turned to that", x.mouse(1), 0);
        }
    }

    /** "2 BUMPS since put(), 3 steps since then": a put() that is BAD is none. */
    private static void countsAnew() {
        FarBoards x = new FarBoards();
        Due.runText(x, "5f");
        Due.due("15 BUMPS", x.mouse(2), 3);
        Due.due("15 steps", x.mouse(3), 2);
        x.put(29, 0);
        Due.due("15 BUMPS behind BAD", x.mouse(2), 3);
        Due.due("15 steps behind BAD", x.mouse(3), 2);
        Due.due("15 put() where it is", x.put(x.mouse(0), x.mouse(1)), 1);
        Due.due("15 BUMPS behind it", x.mouse(2), 0);
        Due.due("15 steps behind it", x.mouse(3), 0);
    }

    private static void ringNoughtAlone() {
        for (int p = 6; p <= 10; p++) {
            FarBoards x = Edges.on(p, 0);
            for (int s = 0; s < p; s++) Due.due("15 alone, side " + s, x.put(0, s), 1);
            Due.due("15 alone, side p", x.put(0, p), Due.BAD);
            Due.due("15 alone, CELL 1", x.put(1, 0), Due.BAD);
        }
    }
}
