/** Promise 32, as. */
public final class P32AsTest {
    public static void main(String[] args) {
        Due.part(Due.Part.ORDINARY_USE);
        ordinaryUse();
        Due.part(Due.Part.EDGES);
        eachIsACell();
        noSuchOne();
        Due.part(Due.Part.WRONG_NUMBERS);
        noSuchCell();
        noSuchKind();
        badAheadOfKind();
        Due.endOfPromise();
    }

    private static void ordinaryUse() {
        FarBoards x = Edges.on(8, 3);
        Due.due("32 LONE", x.as(5, 1), 1);
        Due.due("32 PAIRED", x.as(12, 2), 2);
        Due.due("32 PAIRED as a CELL", x.as(12, 0), 2);
        Due.due("32 RIM", x.as(41, 3), 3);
        Due.due("32 status()", x.status(), 0);
        Due.due("32 PAIRED as LONE", x.as(12, 1), Due.KIND_FOUND);
        Due.due("32 status() then", x.status(), 3);
    }

    private static void stage(FarBoards x) {
        Twins.stage(x);
        x.set(3, 0, 0);
    }

    /** "BAD" */
    private static void noSuchCell() {
        for (int cell : Edges.outside(0, 18)) {
            for (int kind = 0; kind <= 3; kind++) {
                int as = kind;
                Twins.bad("32 CELL " + cell + " as " + kind, P32AsTest::stage, x -> x.as(cell, as));
            }
        }
    }

    /** "a KIND (0 .. 3)" */
    private static void noSuchKind() {
        for (int kind : Edges.outside(0, 3)) {
            Twins.bad("32 KIND " + kind, P32AsTest::stage, x -> x.as(0, kind));
            Twins.bad("32 KIND " + kind + " of a RIM one", P32AsTest::stage, x -> x.as(18, kind));
        }
    }

    /** "(each is a CELL)": its RING, the first and the outermost among them. */
    private static void eachIsACell() {
        for (int[] board : Edges.BOARDS) {
            FarBoards x = Edges.on(board[0], board[1]);
            Due.due("32 the first CELL as one", x.as(0, 0), 0);
            Due.due("32 the last CELL as one", x.as(board[2] - 1, 0), board[1]);
            Due.due("32 status()", x.status(), 0);
            Due.due("32 none behind it", x.as(board[2], 0), Due.BAD);
        }
    }

    /** "KIND: it is no such one", as it is told: a RIM one is neither LONE nor PAIRED. */
    private static void noSuchOne() {
        int[][] told = {{0, 0}, {1, 1}, {7, 1}, {8, 1}, {10, 2}, {28, 2}, {29, 3}, {34, 3}, {84, 3}};
        int[] rings = {0, 1, 1, 2, 2, 2, 3, 3, 3};
        for (int k = 0; k < told.length; k++) {
            int cell = told[k][0];
            for (int kind = 0; kind <= 3; kind++) {
                int as = kind;
                String of = "32 CELL " + cell + " as " + kind;
                Twins.Calls stage = x -> {
                    x.board(7, 3);
                    x.set(3, 0, 0);
                };
                if (kind == 0 || kind == told[k][1]) {
                    Twins.refused(of, stage, x -> x.as(cell, as), rings[k], 0);
                } else {
                    Twins.found(of, stage, x -> x.as(cell, as), 3);
                }
            }
        }
        for (int p = 6; p <= 10; p++) {
            FarBoards x = Edges.on(p, 0);
            for (int kind = 1; kind <= 3; kind++) Due.due("32 alone as " + kind, x.as(0, kind), Due.KIND_FOUND);
            Due.due("32 alone as a CELL", x.as(0, 0), 0);
            x.board(p, 1);
            Due.due("32 RING 1 as LONE", x.as(1, 1), Due.KIND_FOUND);
            Due.due("32 RING 1 as RIM", x.as(1, 3), 1);
        }
    }

    private static void badAheadOfKind() {
        Twins.bad("32 no such CELL, KIND 3", P32AsTest::stage, x -> x.as(19, 3));
        Twins.bad("32 no such CELL nor KIND", P32AsTest::stage, x -> x.as(-1, 4));
    }
}
