/** Promise 26, steps: bits 0 to 10, 1 to 50 STEPS. */
public final class P26StepsTest {
    public static void main(String[] args) {
        Due.part(Due.Part.ORDINARY_USE);
        ordinaryUse();
        Due.part(Due.Part.EDGES);
        everyBit();
        noneAndAll();
        edgesDoNotLive();
        ringNoughtAlone();
        oneByOne();
        everyBoard();
        Due.part(Due.Part.WRONG_NUMBERS);
        noSuchRule();
        noSuchNumberOfSteps();
        Due.endOfPromise();
    }

    private static void ordinaryUse() {
        FarBoards x = Edges.on(6, 1);
        x.live(0, 1);
        Due.due("26 born with one beside, none stays", x.steps(1 << 1, 0, 1), 6);
        Due.due("26 CELL 0 does not live", x.living(0), 0);
        Due.due("26 the RING stays, two beside each", x.steps(0, 1 << 2, 3), 6);
        Due.due("26 CELL 0 is born with six beside", x.steps(1 << 6, 1 << 2, 1), 7);
        Due.due("26 three beside each of the RING", x.steps(0, 1 << 3, 1), 6);
    }

    /** "BORN, STAY (0 to 2047)" */
    private static void noSuchRule() {
        for (int bits : Edges.outside(0, 2047)) {
            Twins.bad("26 BORN " + bits, x -> x.steps(bits, 0, 1));
            Twins.bad("26 STAY " + bits, x -> x.steps(0, bits, 1));
            Twins.bad("26 both " + bits, x -> x.steps(bits, bits, 1));
        }
        FarBoards x = new FarBoards();
        Due.due("26 BORN 2047", x.steps(2047, 0, 1), 29);
        Due.due("26 STAY 2047", x.steps(0, 2047, 1), 29);
        Due.due("26 both 0", x.steps(0, 0, 1), 0);
    }

    /** "BAD: n (1 to 50)" */
    private static void noSuchNumberOfSteps() {
        for (int n : Edges.outside(1, 50)) {
            Twins.bad("26 n " + n, x -> x.steps(1, 1, n));
        }
        // With BORN 1 and STAY 0 all live behind one STEP, none behind two.
        Due.due("26 n 1", new FarBoards().steps(1, 0, 1), 29);
        Due.due("26 n 49", new FarBoards().steps(1, 0, 49), 29);
        Due.due("26 n 50", new FarBoards().steps(1, 0, 50), 0);
    }

    /** "bits 0 to 10: numbers of living CELLS at its sides": CELL 0 of ten SIDES with none to ten of them. */
    private static void everyBit() {
        for (int number = 0; number <= 10; number++) {
            for (int lives = 0; lives <= 1; lives++) {
                for (int bit = 0; bit <= 10; bit++) {
                    FarBoards x = Edges.on(10, 1);
                    for (int c = 1; c <= number; c++) x.live(c, 1);
                    x.live(0, lives);
                    int born = lives == 0 ? 1 << bit : 2047 ^ 1 << bit;
                    int stay = lives == 1 ? 1 << bit : 2047 ^ 1 << bit;
                    x.steps(born, stay, 1);
                    Due.due("26 " + number + " beside, bit " + bit + ", it lives " + lives, x.live(0, 0),
                        number == bit ? 1 : 0);
                }
            }
        }
    }

    private static void noneAndAll() {
        FarBoards x = new FarBoards();
        Due.due("26 of none none is born", x.steps(2046, 2047, 50), 0);
        Due.due("26 of none all are born", x.steps(1, 0, 1), 29);
        Due.due("26 of all all stay", x.steps(0, 2047, 50), 29);
        Due.due("26 of all those with seven beside stay", x.steps(0, 1 << 7, 1), 8);
        Due.due("26 of these those with three", x.steps(0, 1 << 3, 1), 7);
    }

    /** "EDGES do not live": a CELL of the outermost RING has but three or four beside it. */
    private static void edgesDoNotLive() {
        FarBoards x = new FarBoards();
        x.steps(1, 0, 1);
        Due.due("26 three or four beside", x.steps(0, 1 << 3 | 1 << 4, 1), 21);
        Due.due("26 no more than these", x.living(2), 21);
    }

    private static void ringNoughtAlone() {
        for (int p = 6; p <= 10; p++) {
            FarBoards x = Edges.on(p, 0);
            Due.due("26 alone, not born of some", x.steps(2046, 2046, 1), 0);
            Due.due("26 alone, born of none", x.steps(1, 0, 1), 1);
            Due.due("26 alone, it stays", x.steps(0, 1, 50), 1);
            Due.due("26 alone, it does not stay", x.steps(2047, 2046, 1), 0);
        }
    }

    /** "STEPS ..: done one by one", each of all CELLS at once. */
    private static void oneByOne() {
        FarBoards x = Edges.on(6, 1);
        x.live(1, 1);
        Due.due("26 all at once", x.steps(2, 0, 1), 3);
        Due.due("26 CELL 0", x.live(0, 1), 1);
        Due.due("26 CELL 2", x.live(2, 1), 1);
        Due.due("26 CELL 6", x.live(6, 1), 1);
        FarBoards one = Edges.on(10, 2);
        FarBoards many = Edges.on(10, 2);
        one.live(1, 1);
        many.live(1, 1);
        for (int i = 0; i < 50; i++) one.steps(6, 12, 1);
        Due.due("26 fifty at once", many.steps(6, 12, 50), one.count(7));
        for (int c = 0; c < 71; c++) Due.due("26 alike, CELL " + c, many.live(c, 0), one.live(c, 0));
    }

    private static void everyBoard() {
        int[][] rules = {{2, 2}, {4, 12}, {6, 12}, {10, 5}, {2047, 0}, {1, 1}};
        for (int[] board : Edges.BOARDS) {
            for (int[] rule : rules) {
                Model m = new Model();
                m.board(board[0], board[1]);
                FarBoards x = Edges.on(board[0], board[1]);
                for (int c : new int[] {0, board[2] / 3, board[2] - 1}) {
                    x.live(c, 1);
                    m.live(c, 1);
                }
                for (int n : new int[] {1, 2, 5}) {
                    String of = rule[0] + ", " + rule[1] + ", " + n + " on " + board[0] + "/" + board[1];
                    Due.due("26 steps " + of, x.steps(rule[0], rule[1], n), m.steps(rule[0], rule[1], n));
                }
                for (int c = 0; c < board[2]; c++) Due.due("26 CELL " + c, x.live(c, 0), m.live(c, 0));
            }
        }
    }
}
