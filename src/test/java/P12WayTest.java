/** Promise 12, way. */
public final class P12WayTest {
    public static void main(String[] args) {
        Due.part(Due.Part.ORDINARY_USE);
        ordinaryUse();
        Due.part(Due.Part.EDGES);
        noStepsAndAllOfThem();
        notSoMany();
        leastSideFirst();
        ringNoughtAlone();
        everyPair();
        Due.part(Due.Part.WRONG_NUMBERS);
        noSuchCell();
        belowNoSteps();
        Due.endOfPromise();
    }

    private static void ordinaryUse() {
        FarBoards x = new FarBoards();
        // CELL 1 has 0 at side 0 and 2 at side 1: both lead to 3.
        int[] want = {8, 1, 0, 3, Due.NONE};
        for (int i = 0; i < want.length; i++) Due.due("12 from 8 to 3, " + i, x.way(8, 3, i), want[i]);
        int[] other = {10, 2, 3, Due.NONE};
        for (int i = 0; i < other.length; i++) Due.due("12 from 10 to 3, " + i, x.way(10, 3, i), other[i]);
    }

    /** "BAD: CELLS" */
    private static void noSuchCell() {
        for (int cell : Edges.outside(0, 18)) {
            Twins.bad("12 a " + cell, x -> x.way(cell, 0, 0));
            Twins.bad("12 b " + cell, x -> x.way(0, cell, 0));
            Twins.bad("12 b " + cell + ", i beyond", x -> x.way(0, cell, Integer.MAX_VALUE));
        }
    }

    /** "BAD: .. i below 0" */
    private static void belowNoSteps() {
        for (int i : Edges.below(0)) {
            Twins.bad("12 i " + i, x -> x.way(0, 18, i));
            Twins.bad("12 i " + i + " to itself", x -> x.way(0, 0, i));
        }
    }

    /** Behind no steps it is the one, behind all of them the other. */
    private static void noStepsAndAllOfThem() {
        FarBoards x = Edges.on(6, 5);
        Due.due("12 i 0", x.way(61, 76, 0), 61);
        Due.due("12 over the middle", x.way(61, 76, 5), 0);
        Due.due("12 one ahead of the last", x.way(61, 76, 9), 49);
        Due.due("12 the last", x.way(61, 76, 10), 76);
        Due.due("12 none beyond", x.way(61, 76, 11), Due.NONE);
    }

    /** "NONE: it has not so many." */
    private static void notSoMany() {
        for (int i : Edges.above(2)) Twins.asks("12 i " + i + " of two", x -> x.way(0, 18, i), Due.NONE);
        for (int i : Edges.above(0)) Twins.asks("12 i " + i + " to itself", x -> x.way(18, 18, i), Due.NONE);
        Twins.asks("12 i 0 to itself", x -> x.way(18, 18, 0), 18);
    }

    /** "the one whose first step goes over the side of the least number, then the second, .." */
    private static void leastSideFirst() {
        FarBoards x = new FarBoards();
        // From 3 to 17 it goes over 4 (side 1) or 16 (side 2).
        Due.due("12 two ways", x.far(3, 17, 1), 2);
        Due.due("12 the least side", x.way(3, 17, 1), 4);
        // Back from 17 it goes over 4 (side 0) or 16 (side 6).
        Due.due("12 the least side back", x.way(17, 3, 1), 4);
        x.board(6, 2);
        // From 7 to 4 there is one way alone, from 8 to 5 two PARENTS lead over CELL 0: the earlier one first.
        Due.due("12 the earlier PARENT", x.way(8, 5, 1), 1);
        Due.due("12 of the last CELL the last one first", x.way(18, 3, 1), 6);
    }

    private static void ringNoughtAlone() {
        FarBoards x = Edges.on(6, 0);
        Due.due("12 alone", x.way(0, 0, 0), 0);
        Due.due("12 alone, a step", x.way(0, 0, 1), Due.NONE);
        Due.due("12 no CELL 1", x.way(0, 1, 0), Due.BAD);
    }

    private static void everyPair() {
        for (int[] board : new int[][] {{6, 3, 37}, {7, 2, 29}, {9, 1, 10}}) {
            Model m = new Model();
            m.board(board[0], board[1]);
            for (int a = 0; a < board[2]; a++) {
                FarBoards x = Edges.on(board[0], board[1]);
                for (int b = 0; b < board[2]; b++) {
                    for (int i = 0; i <= 7; i++) {
                        String of = "(" + a + ", " + b + ", " + i + ") on " + board[0] + "/" + board[1];
                        Due.due("12 way" + of, x.way(a, b, i), m.way(a, b, i));
                    }
                }
            }
        }
    }
}
