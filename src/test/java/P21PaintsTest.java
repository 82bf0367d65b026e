/** Promise 21, paints. */
public final class P21PaintsTest {
    private static final int MOST = Integer.MAX_VALUE, LEAST = Integer.MIN_VALUE;

    public static void main(String[] args) {
        Due.part(Due.Part.ORDINARY_USE);
        ordinaryUse();
        Due.part(Due.Part.EDGES);
        onlyTheItemsThatAreTaken();
        upToTheLastOne();
        statusOfABadItem();
        Due.part(Due.Part.WRONG_NUMBERS);
        noSuchCell();
        tooFewOrTooMany();
        noSuchSheet();
        missingSheet();
        noSuchPlace();
        noItemsAtAll();
        notAColour();
        sumsThatLeaveInt();
        refusalsInOrder();
        Due.endOfPromise();
    }

    private static void ordinaryUse() {
        FarBoards x = new FarBoards();
        x.sheet(6, 0, 5);
        for (int i = 0; i < 5; i++) x.set(6, i, i % 4);
        Due.due("21 three CELLS", x.paints(10, 6, 1, 3), 3);
        int[] want = {0, 1, 2, 3, 0};
        for (int c = 9; c <= 13; c++) Due.due("21 colour of " + c, x.paint(c, 0), want[c - 9]);
    }

    /** "BAD: CELL" */
    private static void noSuchCell() {
        for (int cell : Edges.outside(0, 18)) {
            Twins.bad("21 CELL " + cell, x -> x.paints(cell, 0, 0, 1));
        }
    }

    /** "n (1 on, beyond the last one)" */
    private static void tooFewOrTooMany() {
        for (int n : Edges.below(1)) {
            Twins.bad("21 n " + n, x -> x.paints(0, 0, 0, n));
            Twins.bad("21 n " + n + " of a SHEET with no ITEMS", x -> x.paints(0, 4, 0, n));
        }
        for (int n : Edges.above(19)) Twins.bad("21 n " + n, x -> x.paints(0, 0, 0, n));
        for (int n : Edges.above(1)) Twins.bad("21 n " + n + " of the last CELL", x -> x.paints(18, 0, 0, n));
        for (int c = 15; c <= 18; c++) {
            int cell = c;
            Twins.bad("21 one beyond the last one, from " + c, x -> x.paints(cell, 0, 0, 20 - cell));
        }
    }

    /** "BAD: .. SHEET" */
    private static void noSuchSheet() {
        for (int sheet : Edges.outside(0, 7)) {
            Twins.bad("21 SHEET " + sheet, x -> x.paints(0, sheet, 0, 1));
        }
    }

    /** "NULL" */
    private static void missingSheet() {
        for (int sheet : new int[] {3, 5, 6, 7}) {
            Twins.found("21 SHEET " + sheet + ", missing", x -> x.paints(0, sheet, 0, 1), 1);
        }
    }

    /** "PLACE": i below 0, or the ITEMS do not suffice. */
    private static void noSuchPlace() {
        for (int i : Edges.outside(0, 4)) {
            Twins.found("21 i " + i, x -> x.paints(0, 0, i, 1), 2);
        }
        for (int i = 0; i <= 5; i++) {
            int at = i;
            Twins.found("21 one beyond the end, from " + i, x -> x.paints(0, 0, at, 6 - at), 2);
        }
        Twins.found("21 i -1 of five", x -> x.paints(0, 0, -1, 5), 2);
    }

    private static void noItemsAtAll() {
        for (int i : new int[] {0, 1, -1, MOST, LEAST}) {
            Twins.found("21 i " + i + " of none", x -> x.paints(0, 4, i, 1), 2);
        }
    }

    /** "then BAD: an ITEM is not 0 to 3", the first one, the last one, of every LANE. */
    private static void notAColour() {
        for (int lane = 0; lane <= 2; lane++) {
            for (int v : new int[] {4, -1, 5, 127, -128, lane == 0 ? 8 : 256, lane == 2 ? Due.NONE : 9}) {
                for (int at = 0; at < 3; at++) {
                    int laid = lane;
                    int place = at;
                    Twins.Calls stage = x -> {
                        Twins.stage(x);
                        x.sheet(2, laid, 3);
                        x.set(2, place, v);
                        x.as(0, 1);
                    };
                    Twins.bad("21 ITEM " + at + " is " + v + ", LANE " + lane, stage, x -> x.paints(1, 2, 0, 3));
                }
            }
        }
    }

    private static void onlyTheItemsThatAreTaken() {
        FarBoards x = new FarBoards();
        x.sheet(0, 2, 4);
        x.set(0, 0, 4);
        x.set(0, 1, 0);
        x.set(0, 2, 3);
        x.set(0, 3, -1);
        x.paint(5, 2);
        Due.due("21 those between", x.paints(5, 0, 1, 2), 2);
        Due.due("21 the least colour", x.paint(5, 0), 0);
        Due.due("21 the greatest colour", x.paint(6, 0), 3);
        Due.due("21 with the one ahead", x.paints(5, 0, 0, 2), Due.BAD);
        Due.due("21 with the one behind", x.paints(5, 0, 2, 2), Due.BAD);
        Due.due("21 none of them came", x.paint(5, 0), 0);
    }

    private static void upToTheLastOne() {
        FarBoards x = new FarBoards();
        x.sheet(7, 0, 60);
        for (int i = 0; i < 60; i++) x.set(7, i, 1 + i % 3);
        Due.due("21 the last CELL", x.paints(28, 7, 59, 1), 1);
        Due.due("21 its colour", x.paint(28, 0), 3);
        Due.due("21 all CELLS", x.paints(0, 7, 31, 29), 29);
        for (int c = 0; c < 29; c++) Due.due("21 colour of " + c, x.paint(c, 0), 1 + (31 + c) % 3);
        Due.due("21 one ITEM too few", x.paints(0, 7, 32, 29), Due.PLACE_FOUND);
        Due.due("21 one CELL too few", x.paints(0, 7, 0, 30), Due.BAD);
        x.board(9, 3);
        Due.due("21 sixty up to the last CELL", x.paints(211, 7, 0, 60), 60);
        Due.due("21 the last one", x.paint(270, 0), 3);
        Due.due("21 sixty beyond it", x.paints(212, 7, 0, 60), Due.BAD);
        Due.due("21 sixty-one of sixty", x.paints(0, 7, 0, 61), Due.PLACE_FOUND);
        x.board(6, 0);
        Due.due("21 RING 0 alone", x.paints(0, 7, 1, 1), 1);
        Due.due("21 its colour", x.paint(0, 0), 2);
        Due.due("21 two of it", x.paints(0, 7, 0, 2), Due.BAD);
    }

    private static void sumsThatLeaveInt() {
        Twins.bad("21 CELL 1, n most", x -> x.paints(1, 0, 0, MOST));
        Twins.bad("21 CELL 18, n most", x -> x.paints(18, 0, 0, MOST));
        Twins.bad("21 CELL most, n 1", x -> x.paints(MOST, 0, 0, 1));
        Twins.bad("21 CELL most, n most", x -> x.paints(MOST, 0, 0, MOST));
        Twins.bad("21 CELL least, n least", x -> x.paints(LEAST, 0, 0, LEAST));
        Twins.found("21 i most, n 1", x -> x.paints(0, 0, MOST, 1), 2);
        Twins.found("21 i most, n 19", x -> x.paints(0, 0, MOST, 19), 2);
        Twins.found("21 i most less 4, n 5", x -> x.paints(0, 0, MOST - 4, 5), 2);
        Twins.found("21 i least, n 5", x -> x.paints(0, 0, LEAST, 5), 2);
    }

    /** "BAD: CELL, n, SHEET; NULL; PLACE; then BAD: an ITEM" */
    private static void refusalsInOrder() {
        Twins.bad("21 CELL BAD, SHEET missing", x -> x.paints(19, 3, 0, 1));
        Twins.bad("21 n 0, SHEET missing", x -> x.paints(0, 3, 0, 0));
        Twins.bad("21 n too many, SHEET missing", x -> x.paints(18, 3, 0, 2));
        Twins.bad("21 n 0, no such place", x -> x.paints(0, 0, 99, 0));
        Twins.bad("21 SHEET BAD, no such place", x -> x.paints(0, 8, -1, 1));
        Twins.found("21 SHEET missing, no such place", x -> x.paints(0, 3, -1, 1), 1);
        Twins.Calls stage = x -> {
            Twins.stage(x);
            x.set(0, 0, 9);
            x.set(0, 4, 9);
            x.as(0, 1);
        };
        Twins.found("21 no such place, an ITEM that is no colour", stage, x -> x.paints(0, 0, 0, 6), 2);
        Twins.found("21 the same at the end", stage, x -> x.paints(0, 0, 4, 2), 2);
        Twins.bad("21 the ITEM alone", stage, x -> x.paints(0, 0, 4, 1));
    }

    /** status() is of the latest call "that was not BAD": an ITEM that is no colour leaves it. */
    private static void statusOfABadItem() {
        FarBoards x = new FarBoards();
        x.sheet(0, 0, 1);
        x.set(0, 0, 4);
        Due.due("21 none", x.status(), 0);
        x.paints(0, 0, 0, 1);
        Due.due("21 none still", x.status(), 0);
        x.paints(0, 0, 1, 1);
        x.paints(0, 0, 0, 1);
        Due.due("21 PLACE still", x.status(), 2);
        x.set(0, 0, 3);
        x.paints(0, 0, 1, 1);
        Due.due("21 PLACE", x.status(), 2);
        x.paints(0, 0, 0, 1);
        Due.due("21 none again", x.status(), 0);
    }
}
