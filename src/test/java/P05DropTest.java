/** Promise 5, drop. */
public final class P05DropTest {
    public static void main(String[] args) {
        Due.part(Due.Part.ORDINARY_USE);
        ordinaryUse();
        Due.part(Due.Part.EDGES);
        howManyItems();
        missingFromNowOn();
        Due.part(Due.Part.WRONG_NUMBERS);
        noSuchSheet();
        missingSheet();
        Due.endOfPromise();
    }

    private static void ordinaryUse() {
        FarBoards x = new FarBoards();
        x.sheet(3, 0, 7);
        x.sheet(6, 2, 20);
        Due.due("5 seven ITEMS", x.drop(3), 7);
        Due.due("5 one SHEET is left", x.count(0), 1);
        Due.due("5 twenty ITEMS", x.drop(6), 20);
        Due.due("5 none is left", x.count(0), 0);
    }

    /** "BAD" */
    private static void noSuchSheet() {
        for (int sheet : Edges.outside(0, 7)) {
            Twins.bad("5 SHEET " + sheet, x -> x.drop(sheet));
        }
    }

    /** "NULL" */
    private static void missingSheet() {
        for (int sheet : new int[] {3, 5, 6, 7}) {
            Twins.found("5 SHEET " + sheet + ", missing", x -> x.drop(sheet), 1);
        }
    }

    /** "how many ITEMS it had": none, one, as many as can be. */
    private static void howManyItems() {
        for (int lane = 0; lane <= 2; lane++) {
            for (int n : new int[] {0, 1, 59, 60}) {
                FarBoards x = new FarBoards();
                x.sheet(0, lane, n);
                x.sheet(7, lane, 60 - n);
                Due.due("5 the first SHEET", x.drop(0), n);
                Due.due("5 one is left", x.count(0), 1);
                Due.due("5 the last SHEET", x.drop(7), 60 - n);
                Due.due("5 none is left", x.count(0), 0);
            }
        }
    }

    /** "A SHEET is missing from now on" */
    private static void missingFromNowOn() {
        FarBoards x = new FarBoards();
        x.sheet(2, 2, 4);
        x.sheet(3, 2, 4);
        x.drop(2);
        Due.due("5 drop() again", x.drop(2), Due.NULL_FOUND);
        Due.due("5 set()", x.set(2, 0, 0), Due.NULL_FOUND);
        Due.due("5 copy() from it", x.copy(2, 0, 3, 0, 1), Due.NULL_FOUND);
        Due.due("5 copy() to it", x.copy(3, 0, 2, 0, 1), Due.NULL_FOUND);
        Due.due("5 paints()", x.paints(0, 2, 0, 1), Due.NULL_FOUND);
        Due.due("5 the other one stays", x.set(3, 3, 9), 9);
        Due.due("5 laid again", x.sheet(2, 0, 1), 1);
        Due.due("5 and there", x.drop(2), 1);
    }
}
