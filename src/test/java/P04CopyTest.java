/** Promise 4, copy: up to both ends, over one another, and sums that leave int. */
public final class P04CopyTest {
    private static final int MOST = Integer.MAX_VALUE, LEAST = Integer.MIN_VALUE;

    public static void main(String[] args) {
        Due.part(Due.Part.ORDINARY_USE);
        ordinaryUse();
        Due.part(Due.Part.EDGES);
        upToTheEnds();
        noneAtTheEnds();
        noItemsAtAll();
        asTheyWereAhead();
        Due.part(Due.Part.WRONG_NUMBERS);
        noSuchSheet();
        missingSheet();
        twoLanes();
        belowNone();
        beyondAnEnd();
        sumsThatLeaveInt();
        refusalsInOrder();
        Due.endOfPromise();
    }

    private static void ordinaryUse() {
        FarBoards x = new FarBoards();
        x.sheet(0, 0, 6);
        x.sheet(1, 0, 4);
        for (int i = 0; i < 6; i++) x.set(0, i, (i + 1) % 4);
        Due.due("4 three ITEMS", x.copy(0, 1, 1, 0, 3), 3);
        row("4 in b", x, 1, 0, 2, 3, 0, 0);
        row("4 in a as they were", x, 0, 0, 1, 2, 3, 0, 1, 2);
        Due.due("4 one ITEM back", x.copy(1, 1, 0, 5, 1), 1);
        row("4 in a then", x, 0, 0, 1, 2, 3, 0, 1, 3);
    }

    /** "BAD: SHEETS", the one and the other. */
    private static void noSuchSheet() {
        for (int sheet : Edges.outside(0, 7)) {
            Twins.bad("4 a " + sheet, x -> x.copy(sheet, 0, 0, 0, 1));
            Twins.bad("4 b " + sheet, x -> x.copy(0, 0, sheet, 0, 1));
        }
        FarBoards x = new FarBoards();
        x.sheet(0, 0, 1);
        x.sheet(7, 0, 1);
        Due.due("4 from the first SHEET to the last", x.copy(0, 0, 7, 0, 1), 1);
        Due.due("4 from the last SHEET to the first", x.copy(7, 0, 0, 0, 1), 1);
    }

    /** "NULL (a SHEET that is missing)" */
    private static void missingSheet() {
        Twins.found("4 a missing", x -> x.copy(3, 0, 0, 0, 1), 1);
        Twins.found("4 b missing", x -> x.copy(0, 0, 3, 0, 1), 1);
        Twins.found("4 both missing", x -> x.copy(3, 0, 5, 0, 1), 1);
        Twins.found("4 one and the same, missing", x -> x.copy(7, 0, 7, 0, 0), 1);
    }

    /** "STORE (SHEETS of two LANES)" */
    private static void twoLanes() {
        for (int a = 0; a <= 2; a++) {
            for (int b = 0; b <= 2; b++) {
                int from = a;
                int to = b;
                if (a == b) continue;
                Twins.found("4 LANE " + a + " to " + b, x -> x.copy(from, 0, to, 0, 1), 5);
                Twins.found("4 LANE " + a + " to " + b + ", none", x -> x.copy(from, 0, to, 0, 0), 5);
            }
        }
        Twins.found("4 none of a SHEET with no ITEMS", x -> x.copy(4, 0, 1, 0, 0), 5);
    }

    /** "PLACE (i, j, n below 0" */
    private static void belowNone() {
        for (int v : Edges.below(0)) {
            Twins.found("4 i " + v, x -> x.copy(0, v, 0, 0, 1), 2);
            Twins.found("4 j " + v, x -> x.copy(0, 0, 0, v, 1), 2);
            Twins.found("4 n " + v, x -> x.copy(0, 1, 0, 1, v), 2);
            Twins.found("4 i " + v + ", none", x -> x.copy(0, v, 0, 0, 0), 2);
            Twins.found("4 j " + v + ", none", x -> x.copy(0, 0, 0, v, 0), 2);
        }
    }

    /** "or beyond an end)" */
    private static void beyondAnEnd() {
        for (int v : Edges.above(5)) {
            Twins.found("4 i " + v, x -> x.copy(0, v, 0, 0, 1), 2);
            Twins.found("4 j " + v, x -> x.copy(0, 0, 0, v, 1), 2);
            Twins.found("4 n " + v, x -> x.copy(0, 0, 0, 0, v), 2);
            Twins.found("4 i " + v + ", none", x -> x.copy(0, v, 0, 0, 0), 2);
            Twins.found("4 j " + v + ", none", x -> x.copy(0, 0, 0, v, 0), 2);
        }
        for (int i = 0; i <= 5; i++) {
            int at = i;
            Twins.found("4 one beyond a from " + i, x -> x.copy(0, at, 0, 0, 6 - at), 2);
            Twins.found("4 one beyond b from " + i, x -> x.copy(0, 0, 0, at, 6 - at), 2);
        }
        Twins.found("4 within a, beyond b", P04CopyTest::stageShort, x -> x.copy(0, 0, 5, 0, 4), 2);
        Twins.found("4 within b, beyond a", P04CopyTest::stageShort, x -> x.copy(5, 0, 0, 0, 4), 2);
    }

    private static void stageShort(FarBoards x) {
        Twins.stage(x);
        x.sheet(5, 0, 3);
    }

    private static void sumsThatLeaveInt() {
        int[][] far = {
            {1, 0, MOST}, {0, 1, MOST}, {MOST, 0, 1}, {0, MOST, 1}, {MOST, MOST, MOST}, {MOST, 0, MOST},
            {LEAST, 0, LEAST}, {0, LEAST, LEAST}, {LEAST, LEAST, LEAST}, {LEAST, 0, MOST}, {-1, -1, MOST},
            {MOST, 0, 2}, {0, MOST, 2}, {MOST - 1, 0, 2}, {0, MOST - 1, 2}, {5, 5, MOST}, {MOST, MOST, LEAST},
            {1 << 30, 0, 1 << 30}, {0, 1 << 30, 1 << 30}, {LEAST, LEAST, 0}, {MOST, MOST, 0},
        };
        for (int[] f : far) {
            Twins.found("4 i " + f[0] + ", j " + f[1] + ", n " + f[2], x -> x.copy(0, f[0], 0, f[1], f[2]), 2);
        }
    }

    private static void upToTheEnds() {
        FarBoards x = new FarBoards();
        x.board(6, 5);
        x.sheet(0, 2, 60);
        x.sheet(1, 2, 60);
        for (int i = 0; i < 60; i++) x.set(0, i, i * i % 4 + i % 3 % 2);
        Due.due("4 all sixty", x.copy(0, 0, 1, 0, 60), 60);
        Due.due("4 they are colours", x.paints(0, 1, 0, 60), 60);
        for (int i = 0; i < 60; i++) Due.due("4 ITEM " + i, x.paint(i, 0), i * i % 4 + i % 3 % 2);
        Due.due("4 the last one to the first place", x.copy(0, 59, 1, 0, 1), 1);
        Due.due("4 the first one to the last place", x.copy(0, 0, 1, 59, 1), 1);
        Due.due("4 one beyond", x.copy(0, 59, 1, 0, 2), Due.PLACE_FOUND);
        row("4 the first one now", x, 1, 0, 59 * 59 % 4 + 59 % 3 % 2);
        row("4 the last one now", x, 1, 59, 0);
    }

    /** No ITEMS can come from, and to, the place behind the last one. */
    private static void noneAtTheEnds() {
        FarBoards x = new FarBoards();
        x.sheet(0, 0, 5);
        x.sheet(1, 0, 60);
        Due.due("4 none from the end", x.copy(0, 5, 0, 0, 0), 0);
        Due.due("4 none to the end", x.copy(0, 0, 0, 5, 0), 0);
        Due.due("4 none from place 60 to place 60", x.copy(1, 60, 1, 60, 0), 0);
        Due.due("4 none from place 61", x.copy(1, 61, 1, 0, 0), Due.PLACE_FOUND);
        Due.due("4 none to place 61", x.copy(1, 0, 1, 61, 0), Due.PLACE_FOUND);
    }

    private static void noItemsAtAll() {
        FarBoards x = new FarBoards();
        x.sheet(0, 2, 0);
        x.sheet(1, 2, 0);
        Due.due("4 none of none", x.copy(0, 0, 1, 0, 0), 0);
        Due.due("4 none of none, to itself", x.copy(0, 0, 0, 0, 0), 0);
        Due.due("4 one of none", x.copy(0, 0, 1, 0, 1), Due.PLACE_FOUND);
        Due.due("4 place 1 of none", x.copy(0, 1, 1, 0, 0), Due.PLACE_FOUND);
    }

    /** "as they were ahead", where the two rows lie over one another. */
    private static void asTheyWereAhead() {
        for (int lane = 0; lane <= 2; lane++) {
            FarBoards x = new FarBoards();
            x.sheet(6, lane, 5);
            for (int i = 0; i < 5; i++) x.set(6, i, (i + 1) % 4);
            Due.due("4 one on", x.copy(6, 0, 6, 1, 4), 4);
            row("4 on", x, 6, 0, 1, 1, 2, 3, 0);
            Due.due("4 one back", x.copy(6, 1, 6, 0, 4), 4);
            row("4 back", x, 6, 0, 1, 2, 3, 0, 0);
            Due.due("4 to itself", x.copy(6, 0, 6, 0, 5), 5);
            row("4 to itself", x, 6, 0, 1, 2, 3, 0, 0);
            Due.due("4 two on", x.copy(6, 0, 6, 2, 3), 3);
            row("4 two on", x, 6, 0, 1, 2, 1, 2, 3);
        }
    }

    /** ITEMS are told by the colours that paints() takes of them. */
    private static void row(String what, FarBoards x, int sheet, int from, int... want) {
        for (int k = 0; k < want.length; k++) {
            Due.due(what + ", a colour", x.paints(0, sheet, from + k, 1), 1);
            Due.due(what + ", ITEM " + (from + k), x.paint(0, 0), want[k]);
        }
    }

    /** "BAD: SHEETS; NULL; STORE; PLACE" */
    private static void refusalsInOrder() {
        Twins.bad("4 a BAD, b missing", x -> x.copy(8, 0, 3, 0, 1));
        Twins.bad("4 a missing, b BAD", x -> x.copy(3, 0, 8, 0, 1));
        Twins.bad("4 a BAD, places beyond", x -> x.copy(-1, 99, 0, 99, 99));
        Twins.bad("4 b BAD, n below 0", x -> x.copy(0, 0, -1, 0, -1));
        Twins.found("4 a missing, places beyond", x -> x.copy(3, 99, 0, 99, 99), 1);
        Twins.found("4 b missing, n below 0", x -> x.copy(1, 0, 3, 0, -1), 1);
        Twins.found("4 two LANES, i below 0", x -> x.copy(0, -1, 1, 0, 1), 5);
        Twins.found("4 two LANES, j beyond", x -> x.copy(0, 0, 1, 9, 1), 5);
        Twins.found("4 two LANES, n most", x -> x.copy(2, 0, 1, 0, MOST), 5);
    }
}
