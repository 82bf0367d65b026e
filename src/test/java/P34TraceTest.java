/** Promise 34, trace. */
public final class P34TraceTest {
    public static void main(String[] args) {
        Due.part(Due.Part.ORDINARY_USE);
        ordinaryUse();
        Due.part(Due.Part.EDGES);
        noneBeforeAnAsk();
        firstAndLast();
        whatLeavesIt();
        Due.part(Due.Part.WRONG_NUMBERS);
        noneBeyond();
        Due.endOfPromise();
    }

    private static void ordinaryUse() {
        FarBoards x = Edges.on(8, 3);
        x.ask(12, 1);
        int[] want = {22, 20, 12, 10, Due.NONE};
        for (int i = 0; i < want.length; i++) Due.due("34 MARK of a PAIRED one, " + i, x.trace(i), want[i]);
        x.ask(5, 0);
        int[] then = {11, 10, Due.NONE};
        for (int i = 0; i < then.length; i++) Due.due("34 SIZE of a LONE one, " + i, x.trace(i), then[i]);
    }

    private static void noneBeforeAnAsk() {
        FarBoards x = new FarBoards();
        for (int i = -2; i <= 17; i++) Due.due("34 before an ASK, " + i, x.trace(i), Due.NONE);
    }

    private static void firstAndLast() {
        FarBoards x = new FarBoards();
        x.ask(28, 0);
        Due.due("34 the first", x.trace(0), 13);
        Due.due("34 the last", x.trace(3), 20);
        Due.due("34 none behind it", x.trace(4), Due.NONE);
        x.ask(0, 1);
        Due.due("34 the only one", x.trace(0), 20);
        Due.due("34 none behind that", x.trace(1), Due.NONE);
    }

    /** "NONE", below 0, behind the last one, and behind the 16 that it holds. */
    private static void noneBeyond() {
        for (int i : Edges.outside(0, 3)) Twins.asks("34 i " + i, x -> x.trace(i), Due.NONE);
        for (int i = 4; i <= 17; i++) {
            int at = i;
            Twins.asks("34 i " + i, x -> x.trace(at), Due.NONE);
        }
        Twins.asks("34 i 0", x -> x.trace(0), 13);
        Twins.asks("34 i 3", x -> x.trace(3), 20);
    }

    /** Calls other than ask() leave it: kind() and as() are no ASKS. */
    private static void whatLeavesIt() {
        FarBoards x = new FarBoards();
        x.ask(28, 0);
        x.kind(0);
        x.as(0, 0);
        x.as(0, 3);
        x.count(6);
        Due.runText(x, "f");
        Due.due("34 it stays", x.trace(3), 20);
        x.board(6, 0);
        Due.due("34 it stays on a board anew", x.trace(3), 20);
    }
}
