/** Promise 29, alike. */
public final class P29AlikeTest {
    public static void main(String[] args) {
        Due.part(Due.Part.ORDINARY_USE);
        ordinaryUse();
        Due.part(Due.Part.EDGES);
        byNothing();
        noneAndAllLive();
        oneCellOfEachRing();
        partsThatMeet();
        ringNoughtAlone();
        Due.part(Due.Part.WRONG_NUMBERS);
        noSuchTurn();
        Due.endOfPromise();
    }

    private static void ordinaryUse() {
        FarBoards x = Edges.on(8, 2);
        x.live(1, 1);
        x.live(5, 1);
        Due.due("29 by a half", x.alike(4), 1);
        Due.due("29 by a quarter", x.alike(2), 0);
        x.live(3, 1);
        Due.due("29 by a half no more", x.alike(4), 0);
        x.live(7, 1);
        Due.due("29 by a quarter then", x.alike(2), 1);
        Due.due("29 by an eighth", x.alike(1), 0);
    }

    /** "BAD: t." */
    private static void noSuchTurn() {
        for (int t : Edges.outside(0, 5)) {
            Twins.bad("29 t " + t, x -> x.alike(t));
        }
        for (int p = 6; p <= 10; p++) {
            Due.due("29 t p - 1", Edges.on(p, 1).alike(p - 1), 1);
            Due.due("29 t p", Edges.on(p, 1).alike(p), Due.BAD);
        }
    }

    private static void byNothing() {
        Twins.asks("29 by 0", x -> x.alike(0), 1);
        // CELLS 3 and 6 of RING 1 live on the stage: by half alike; 9, 12, 15, 18 of RING 2, too.
        Twins.asks("29 by 3", x -> x.alike(3), 1);
        Twins.asks("29 by 1", x -> x.alike(1), 0);
        Twins.asks("29 by 5", x -> x.alike(5), 0);
    }

    private static void noneAndAllLive() {
        for (int[] board : Edges.BOARDS) {
            FarBoards x = Edges.on(board[0], board[1]);
            for (int t = 0; t < board[0]; t++) Due.due("29 none live", x.alike(t), 1);
            x.steps(1, 0, 1);
            for (int t = 0; t < board[0]; t++) Due.due("29 all live", x.alike(t), 1);
        }
    }

    /** One CELL alone, the first or the last of its RING, is not alike by any TURN but 0; CELL 0 is by all. */
    private static void oneCellOfEachRing() {
        for (int[] board : Edges.BOARDS) {
            for (int c : new int[] {0, 1, board[0], board[2] - 1}) {
                if (c >= board[2]) continue;
                FarBoards x = Edges.on(board[0], board[1]);
                x.live(c, 1);
                for (int t = 0; t < board[0]; t++) {
                    Due.due("29 CELL " + c + " alone by " + t, x.alike(t), c == 0 || t == 0 ? 1 : 0);
                }
                x.steps(2047, 0, 1);
                for (int t = 0; t < board[0]; t++) {
                    Due.due("29 all but CELL " + c + " by " + t, x.alike(t), c == 0 || t == 0 ? 1 : 0);
                }
            }
        }
    }

    /** Alike by each TURN that takes living CELLS to living ones, round the RING's end. */
    private static void partsThatMeet() {
        for (int p = 6; p <= 10; p++) {
            for (int part = 1; part < p; part++) {
                FarBoards x = Edges.on(p, 2);
                int last = x.count(1) - 1;
                boolean[] lives = new boolean[p];
                for (int t = 0; !lives[t]; t = (t + part) % p) {
                    lives[t] = true;
                    x.live(x.turned(last, t), 1);
                }
                for (int t = 0; t < p; t++) {
                    Due.due("29 by " + t + " of " + p + ", parts of " + part, x.alike(t), lives[t] ? 1 : 0);
                }
            }
        }
    }

    private static void ringNoughtAlone() {
        for (int p = 6; p <= 10; p++) {
            FarBoards x = Edges.on(p, 0);
            x.live(0, 1);
            for (int t = 0; t < p; t++) Due.due("29 alone", x.alike(t), 1);
            Due.due("29 alone, t p", x.alike(p), Due.BAD);
            Due.due("29 alone, t -1", x.alike(-1), Due.BAD);
        }
    }
}
