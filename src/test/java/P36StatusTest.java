/** Promise 36, status. */
public final class P36StatusTest {
    public static void main(String[] args) {
        Due.part(Due.Part.ORDINARY_USE);
        ordinaryUse();
        Due.part(Due.Part.EDGES);
        noughtAtFirst();
        eachFinding();
        callsWithoutASheetLeaveIt();
        callsThatFindNothing();
        theLatestOne();
        Due.part(Due.Part.WRONG_NUMBERS);
        badAndFullLeaveIt();
        Due.endOfPromise();
    }

    private static void ordinaryUse() {
        FarBoards x = new FarBoards();
        x.set(0, 0, 0);
        Due.due("36 a SHEET that is missing", x.status(), 1);
        x.sheet(0, 0, 2);
        Due.due("36 none", x.status(), 0);
        x.set(0, 2, 0);
        Due.due("36 no such place", x.status(), 2);
        x.as(0, 0);
        Due.due("36 none of as()", x.status(), 0);
    }

    /** "0: .. there was none" */
    private static void noughtAtFirst() {
        FarBoards x = new FarBoards();
        Due.due("36 at first", x.status(), 0);
        x.set(8, 0, 0);
        x.as(29, 0);
        x.board(10, 5);
        Due.due("36 behind BAD and FULL", x.status(), 0);
    }

    private interface Found {
        int by(FarBoards x);
    }

    private static void found(String name, int number, Found call) {
        FarBoards x = new FarBoards();
        x.sheet(0, 0, 2);
        x.sheet(1, 1, 2);
        Due.due("36 " + name, call.by(x), -1000010 - number);
        Due.due("36 its number", x.status(), number);
        Due.due("36 told again", x.status(), number);
    }

    /** "the number of its FINDING", each of them by each call that can have it. */
    private static void eachFinding() {
        found("NULL of set", 1, x -> x.set(7, 0, 0));
        found("NULL of copy, a", 1, x -> x.copy(7, 0, 0, 0, 0));
        found("NULL of copy, b", 1, x -> x.copy(0, 0, 7, 0, 0));
        found("NULL of drop", 1, x -> x.drop(7));
        found("NULL of paints", 1, x -> x.paints(0, 7, 0, 1));
        found("PLACE of set", 2, x -> x.set(0, 2, 0));
        found("PLACE of copy", 2, x -> x.copy(0, 0, 0, 0, 3));
        found("PLACE of paints", 2, x -> x.paints(0, 0, 2, 1));
        found("KIND of as", 3, x -> x.as(0, 1));
        found("SIZE of sheet", 4, x -> x.sheet(0, 0, -1));
        found("STORE of copy", 5, x -> x.copy(0, 0, 1, 0, 1));
    }

    /** "that was not BAD, STATE, FULL" */
    private static void badAndFullLeaveIt() {
        FarBoards x = new FarBoards();
        x.sheet(0, 0, 1);
        x.set(0, 0, 9);
        x.as(0, 2);
        Due.due("36 KIND", x.status(), 3);
        x.sheet(8, 0, 1);
        x.sheet(0, 3, 1);
        x.sheet(0, 0, 61);
        x.sheet(8, 0, -1);
        Due.due("36 sheet() BAD", x.status(), 3);
        x.set(-1, 0, 0);
        Due.due("36 set() BAD", x.status(), 3);
        x.copy(0, 0, 8, 0, 0);
        x.copy(-1, 0, 0, 0, 0);
        Due.due("36 copy() BAD", x.status(), 3);
        x.drop(8);
        Due.due("36 drop() BAD", x.status(), 3);
        x.paints(29, 0, 0, 1);
        x.paints(0, 0, 0, 0);
        x.paints(0, 8, 0, 1);
        Due.due("36 paints() BAD", x.status(), 3);
        x.paints(0, 0, 0, 1);
        Due.due("36 paints() BAD by an ITEM", x.status(), 3);
        x.drop(7);
        x.as(29, 1);
        x.as(0, 4);
        Due.due("36 as() BAD", x.status(), 1);
        x.board(10, 3);
        Due.due("36 board() FULL", x.status(), 1);
    }

    /** It is "of the latest call with a SHEET, or as()": the others leave it, with or without a refusal. */
    private static void callsWithoutASheetLeaveIt() {
        FarBoards x = new FarBoards();
        x.sheet(0, 0, -1);
        x.board(7, 2);
        x.cell(0, 0);
        x.side(0, 0);
        x.by(0, 1);
        x.grown(7, 1, 0);
        x.far(0, 1, 0);
        x.way(0, 1, 0);
        x.walks(0, 1, 1);
        x.around(0, 1);
        x.put(1, 1);
        x.mouse(0);
        Due.due("36 of the board, ways and THE MOUSE", x.status(), 4);
        Due.runText(x, "f");
        Due.runText(x, "x");
        Due.runText(x, "20(20(20f))");
        x.fault();
        Due.due("36 of texts", x.status(), 4);
        x.paint(0, 1);
        x.paint(0, 4);
        x.clashes();
        x.coloured(3, 3);
        x.found(3, 3, 0);
        x.live(0, 1);
        x.steps(1, 1, 1);
        x.living(0);
        x.turned(1, 1);
        x.alike(1);
        x.orbits(1);
        Due.due("36 of colours and life", x.status(), 4);
        x.kind(0);
        x.ask(28, 0);
        x.trace(0);
        x.count(0);
        Due.due("36 of what is asked", x.status(), 4);
    }

    /** "0: it had none" */
    private static void callsThatFindNothing() {
        FarBoards x = new FarBoards();
        x.drop(0);
        x.sheet(0, 0, 0);
        Due.due("36 sheet() of no ITEMS", x.status(), 0);
        x.drop(1);
        x.copy(0, 0, 0, 0, 0);
        Due.due("36 copy() of no ITEMS", x.status(), 0);
        x.drop(1);
        x.drop(0);
        Due.due("36 drop()", x.status(), 0);
        x.sheet(0, 0, 1);
        x.drop(1);
        x.set(0, 0, -11);
        Due.due("36 set()", x.status(), 0);
        x.set(0, 0, 0);
        x.drop(1);
        x.paints(0, 0, 0, 1);
        Due.due("36 paints()", x.status(), 0);
        x.drop(1);
        x.as(0, 0);
        Due.due("36 as()", x.status(), 0);
    }

    private static void theLatestOne() {
        FarBoards x = new FarBoards();
        x.set(0, 0, 0);
        x.as(0, 3);
        Due.due("36 KIND behind NULL", x.status(), 3);
        x.sheet(0, 0, -1);
        Due.due("36 SIZE behind KIND", x.status(), 4);
        x.set(0, 0, 0);
        Due.due("36 NULL behind SIZE", x.status(), 1);
    }
}
