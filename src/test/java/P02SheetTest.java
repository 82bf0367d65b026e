/** Promise 2, sheet: SHEETS 0 to 7, LANES 0 to 2, 0 to 60 ITEMS. */
public final class P02SheetTest {
    public static void main(String[] args) {
        Due.part(Due.Part.ORDINARY_USE);
        ordinaryUse();
        Due.part(Due.Part.EDGES);
        sheetsFromFirstToLast();
        lanesFromFirstToLast();
        itemsFromNoneToMost();
        itemsAreZeroAtFirst();
        inPlaceOfWhatIsThere();
        neighboursStay();
        Due.part(Due.Part.WRONG_NUMBERS);
        noSuchSheet();
        noSuchLane();
        tooManyItems();
        fewerThanNone();
        refusalsInOrder();
        Due.endOfPromise();
    }

    private static void ordinaryUse() {
        FarBoards x = new FarBoards();
        Due.due("2 twelve shorts", x.sheet(2, 1, 12), 12);
        Due.due("2 three ints", x.sheet(4, 2, 3), 3);
        Due.due("2 two SHEETS", x.count(0), 2);
        Due.due("2 the last of twelve", x.set(2, 11, 500), 500);
        Due.due("2 the last of three", x.set(4, 2, 70000), 70000);
        Due.due("2 five bytes in place of twelve shorts", x.sheet(2, 0, 5), 5);
        Due.due("2 two SHEETS still", x.count(0), 2);
    }

    /** "SHEETS 0 .. 7" */
    private static void sheetsFromFirstToLast() {
        FarBoards x = new FarBoards();
        for (int sheet = 0; sheet < 8; sheet++) {
            Due.due("2 SHEET " + sheet, x.sheet(sheet, 0, 1), 1);
            Due.due("2 it is there", x.set(sheet, 0, sheet), sheet);
            Due.due("2 SHEETS then", x.count(0), sheet + 1);
        }
    }

    /** "BAD: SHEET" */
    private static void noSuchSheet() {
        for (int sheet : Edges.outside(0, 7)) {
            Twins.bad("2 SHEET " + sheet, x -> x.sheet(sheet, 0, 1));
        }
    }

    /** "a LANE (0 bytes, 1 shorts, 2 ints)" */
    private static void lanesFromFirstToLast() {
        FarBoards x = new FarBoards();
        int[] kept = {64, -25536, 40000};
        for (int lane = 0; lane <= 2; lane++) {
            Due.due("2 LANE " + lane, x.sheet(0, lane, 1), 1);
            Due.due("2 what LANE " + lane + " keeps", x.set(0, 0, 40000), kept[lane]);
        }
    }

    /** "BAD: .. LANE" */
    private static void noSuchLane() {
        for (int lane : Edges.outside(0, 2)) {
            Twins.bad("2 LANE " + lane, x -> x.sheet(3, lane, 1));
            Twins.bad("2 LANE " + lane + " of a SHEET that is there", x -> x.sheet(0, lane, 5));
        }
    }

    /** "0 to 60 ITEMS" */
    private static void itemsFromNoneToMost() {
        for (int lane = 0; lane <= 2; lane++) {
            FarBoards x = new FarBoards();
            for (int n : new int[] {0, 1, 59, 60}) {
                Due.due("2 n " + n, x.sheet(7, lane, n), n);
                Due.due("2 no place " + n, x.set(7, n, 0), Due.PLACE_FOUND);
                Due.due("2 place " + (n - 1), x.set(7, n - 1, 1), n == 0 ? Due.PLACE_FOUND : 1);
                Due.due("2 so many", x.drop(7), n);
            }
        }
    }

    /** "BAD: .. n above 60" */
    private static void tooManyItems() {
        for (int n : Edges.above(60)) {
            Twins.bad("2 n " + n, x -> x.sheet(3, 0, n));
            Twins.bad("2 n " + n + " of a SHEET that is there", x -> x.sheet(0, 0, n));
        }
    }

    /** "SIZE (fewer than none)" */
    private static void fewerThanNone() {
        for (int n : Edges.below(0)) {
            Twins.found("2 n " + n, x -> x.sheet(3, 0, n), 4);
            Twins.found("2 n " + n + " of a SHEET that is there", x -> x.sheet(0, 2, n), 4);
        }
    }

    /** "Refusals are answers, the first of these that fits": BAD ahead of SIZE. */
    private static void refusalsInOrder() {
        Twins.bad("2 SHEET 8 and SIZE", x -> x.sheet(8, 0, -1));
        Twins.bad("2 SHEET -1 and SIZE", x -> x.sheet(-1, 0, Integer.MIN_VALUE));
        Twins.bad("2 LANE 3 and SIZE", x -> x.sheet(0, 3, -1));
        Twins.bad("2 LANE -1 and SIZE", x -> x.sheet(0, -1, -1));
    }

    /** "ITEMS, 0 at first": also where there were others, and more of them, ahead. */
    private static void itemsAreZeroAtFirst() {
        FarBoards x = new FarBoards();
        x.board(6, 5);
        x.sheet(3, 2, 60);
        for (int i = 0; i < 60; i++) x.set(3, i, 3);
        Due.due("2 a smaller one", x.sheet(3, 2, 10), 10);
        Due.due("2 a larger one again", x.sheet(3, 2, 60), 60);
        for (int c = 0; c < 60; c++) x.paint(c, 1);
        Due.due("2 all its ITEMS as colours", x.paints(0, 3, 0, 60), 60);
        for (int c = 0; c < 60; c++) Due.due("2 ITEM " + c, x.paint(c, 0), 0);
        x.set(3, 59, 3);
        x.drop(3);
        x.sheet(3, 0, 60);
        x.paint(0, 1);
        x.paints(0, 3, 59, 1);
        Due.due("2 0 behind drop(), too", x.paint(0, 0), 0);
    }

    /** "in place of what is there" */
    private static void inPlaceOfWhatIsThere() {
        FarBoards x = new FarBoards();
        x.sheet(5, 2, 60);
        Due.due("2 fewer, of another LANE", x.sheet(5, 0, 3), 3);
        Due.due("2 still one SHEET", x.count(0), 1);
        Due.due("2 its LANE is the new one", x.set(5, 2, 257), 1);
        Due.due("2 its end is the new one", x.set(5, 3, 0), Due.PLACE_FOUND);
        Due.due("2 none at all", x.sheet(5, 1, 0), 0);
        Due.due("2 a SHEET with no ITEMS is there", x.count(0), 1);
        Due.due("2 it had none", x.drop(5), 0);
    }

    private static void neighboursStay() {
        FarBoards x = new FarBoards();
        for (int sheet = 2; sheet <= 4; sheet++) x.sheet(sheet, 2, 60);
        x.set(2, 59, 3);
        x.set(4, 0, 3);
        Due.due("2 the one between anew", x.sheet(3, 2, 60), 60);
        x.set(3, 0, 1);
        x.set(3, 59, 1);
        x.paints(0, 2, 59, 1);
        Due.due("2 the last ITEM of the one ahead", x.paint(0, 0), 3);
        x.paints(0, 4, 0, 1);
        Due.due("2 the first ITEM of the one behind", x.paint(0, 0), 3);
    }
}
