/** Promise 3, set: places of a SHEET, and the lowest bits of a number. */
public final class P03SetTest {
    public static void main(String[] args) {
        Due.part(Due.Part.ORDINARY_USE);
        ordinaryUse();
        Due.part(Due.Part.EDGES);
        placesFromFirstToLast();
        lowestBitsOfBytes();
        lowestBitsOfShorts();
        allBitsOfInts();
        Due.part(Due.Part.WRONG_NUMBERS);
        noSuchSheet();
        missingSheet();
        noSuchPlace();
        noPlaceWhereThereAreNoItems();
        refusalsInOrder();
        Due.endOfPromise();
    }

    private static void ordinaryUse() {
        FarBoards x = new FarBoards();
        x.sheet(1, 0, 4);
        Due.due("3 ITEM 0", x.set(1, 0, 2), 2);
        Due.due("3 ITEM 3", x.set(1, 3, 1), 1);
        Due.due("3 below 0", x.set(1, 2, -5), -5);
        Due.due("3 another number", x.set(1, 2, 3), 3);
        Due.due("3 all of them as colours", x.paints(8, 1, 0, 4), 4);
        int[] want = {2, 0, 3, 1};
        for (int i = 0; i < 4; i++) Due.due("3 ITEM " + i + " is", x.paint(8 + i, 0), want[i]);
    }

    /** "BAD: SHEET" */
    private static void noSuchSheet() {
        for (int sheet : Edges.outside(0, 7)) {
            Twins.bad("3 SHEET " + sheet, x -> x.set(sheet, 0, 1));
        }
    }

    /** "NULL (a SHEET that is missing)" */
    private static void missingSheet() {
        for (int sheet : new int[] {3, 5, 6, 7}) {
            Twins.found("3 SHEET " + sheet + ", missing", x -> x.set(sheet, 0, 1), 1);
        }
        FarBoards x = new FarBoards();
        x.sheet(0, 0, 1);
        x.drop(0);
        Due.due("3 SHEET 0, dropped", x.set(0, 0, 1), Due.NULL_FOUND);
        Due.due("3 SHEET 7, the last one", x.set(7, 0, 1), Due.NULL_FOUND);
    }

    private static void placesFromFirstToLast() {
        FarBoards x = new FarBoards();
        x.sheet(0, 1, 1);
        x.sheet(7, 2, 60);
        Due.due("3 the only one", x.set(0, 0, 5), 5);
        Due.due("3 the first one", x.set(7, 0, 6), 6);
        Due.due("3 the last one", x.set(7, 59, 7), 7);
    }

    /** "PLACE (no such place of a SHEET)" */
    private static void noSuchPlace() {
        for (int i : Edges.outside(0, 4)) {
            Twins.found("3 place " + i + " of five", x -> x.set(0, i, 2), 2);
        }
        for (int i : Edges.outside(0, 59)) {
            Twins.found("3 place " + i + " of sixty", P03SetTest::stageSixty, x -> x.set(2, i, 2), 2);
        }
    }

    private static void stageSixty(FarBoards x) {
        Twins.stage(x);
        x.sheet(2, 2, 60);
        x.sheet(3, 2, 60);
    }

    private static void noPlaceWhereThereAreNoItems() {
        for (int i : new int[] {0, 1, -1, Integer.MAX_VALUE, Integer.MIN_VALUE}) {
            Twins.found("3 place " + i + " of none", x -> x.set(4, i, 2), 2);
        }
    }

    /** "its lowest bits, as many as the LANE has: what it is then" */
    private static void lowestBitsOfBytes() {
        int[][] want = {
            {127, 127}, {128, -128}, {-128, -128}, {-129, 127}, {255, -1}, {256, 0}, {257, 1}, {-1, -1}, {-256, 0},
            {Integer.MAX_VALUE, -1}, {Integer.MIN_VALUE, 0}, {0, 0},
        };
        keeps(0, want);
    }

    private static void lowestBitsOfShorts() {
        int[][] want = {
            {32767, 32767}, {32768, -32768}, {-32768, -32768}, {-32769, 32767}, {65535, -1}, {65536, 0}, {65537, 1},
            {-1, -1}, {128, 128}, {255, 255}, {Integer.MAX_VALUE, -1}, {Integer.MIN_VALUE, 0},
        };
        keeps(1, want);
    }

    private static void allBitsOfInts() {
        int[][] want = {
            {Integer.MAX_VALUE, Integer.MAX_VALUE}, {Integer.MIN_VALUE, Integer.MIN_VALUE}, {32768, 32768},
            {65536, 65536}, {-1, -1}, {Due.NONE, Due.NONE}, {Due.BAD, Due.BAD},
        };
        keeps(2, want);
    }

    private static void keeps(int lane, int[][] want) {
        FarBoards x = new FarBoards();
        x.sheet(1, lane, 2);
        for (int[] w : want) {
            Due.due("3 LANE " + lane + " of " + w[0], x.set(1, 1, w[0]), w[1]);
            Due.due("3 that is no refusal", x.status(), 0);
        }
        // What is kept, and not only what is told, is cut: then it is a colour.
        Due.due("3 LANE " + lane + " of 65538", x.set(1, 0, 65538), lane < 2 ? 2 : 65538);
        Due.due("3 as a colour", x.paints(0, 1, 0, 1), lane < 2 ? 1 : Due.BAD);
    }

    /** BAD ahead of NULL, NULL ahead of PLACE. */
    private static void refusalsInOrder() {
        Twins.bad("3 SHEET 8 and place -1", x -> x.set(8, -1, 0));
        Twins.bad("3 SHEET -1 and place 99", x -> x.set(-1, 99, 0));
        Twins.found("3 missing, and place -1", x -> x.set(3, -1, 0), 1);
        Twins.found("3 missing, and place 60", x -> x.set(3, 60, 0), 1);
    }
}
