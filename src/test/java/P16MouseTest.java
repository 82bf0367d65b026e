/** Promise 16, mouse, and THE MOUSE of the Terms: sides that go round, EDGES, BUMPS. */
public final class P16MouseTest {
    public static void main(String[] args) {
        Due.part(Due.Part.ORDINARY_USE);
        ordinaryUse();
        Due.part(Due.Part.EDGES);
        asByPutAtFirst();
        leftAndRightGoRound();
        backGoesRound();
        forwardGoesRound();
        bumpsAtAnEdge();
        bumpsAreNoSteps();
        ringNoughtAlone();
        Due.part(Due.Part.WRONG_NUMBERS);
        noSuchQuestion();
        Due.endOfPromise();
    }

    private static void ordinaryUse() {
        FarBoards x = new FarBoards();
        x.put(0, 2);
        Due.runText(x, "f");
        at("16 over side 2 of CELL 0", x, 6, 3, 0, 1);
        Due.runText(x, "r");
        at("16 RIGHT", x, 6, 4, 0, 1);
        Due.runText(x, "f");
        at("16 to the first OWN one of 6", x, 23, 3, 0, 2);
        Due.runText(x, "f");
        at("16 at an EDGE", x, 23, 3, 1, 2);
        Due.runText(x, "bl");
        at("16 BACK, LEFT", x, 23, 5, 1, 2);
    }

    /** "BAD." */
    private static void noSuchQuestion() {
        for (int what : Edges.outside(0, 3)) {
            Twins.bad("16 what " + what, x -> x.mouse(what));
        }
    }

    /** "(As by put(0, 0) at first.)" */
    private static void asByPutAtFirst() {
        at("16 at first", new FarBoards(), 0, 0, 0, 0);
        FarBoards x = new FarBoards();
        x.put(0, 0);
        at("16 by put(0, 0)", x, 0, 0, 0, 0);
        x.put(28, 6);
        Due.runText(x, "ff");
        x.board(7, 2);
        at("16 on a board anew", x, 0, 0, 0, 0);
    }

    /** "LEFT, RIGHT: it is turned to the side one less, one more (round)." */
    private static void leftAndRightGoRound() {
        for (int p = 6; p <= 10; p++) {
            FarBoards x = Edges.on(p, 1);
            Due.runText(x, "l");
            at("16 LEFT of side 0", x, 0, p - 1, 0, 0);
            Due.runText(x, "r");
            at("16 RIGHT of the last side", x, 0, 0, 0, 0);
            Due.runText(x, "r");
            at("16 RIGHT of side 0", x, 0, 1, 0, 0);
            Due.runText(x, "l");
            at("16 LEFT of side 1", x, 0, 0, 0, 0);
            Due.runText(x, p + "r");
            at("16 all the way round RIGHT", x, 0, 0, 0, 0);
            Due.runText(x, p + "l");
            at("16 all the way round LEFT", x, 0, 0, 0, 0);
        }
    }

    /** "BACK: turned to the side h further on", "h is p by 2, cut". */
    private static void backGoesRound() {
        int[] half = {3, 3, 4, 4, 5};
        for (int p = 6; p <= 10; p++) {
            int h = half[p - 6];
            FarBoards x = Edges.on(p, 1);
            Due.runText(x, "b");
            at("16 BACK of side 0", x, 0, h, 0, 0);
            Due.runText(x, "b");
            at("16 BACK twice", x, 0, p % 2 == 0 ? 0 : p - 1, 0, 0);
            x.put(0, p - h - 1);
            Due.runText(x, "b");
            at("16 BACK to the last side", x, 0, p - 1, 0, 0);
            x.put(0, p - h);
            Due.runText(x, "b");
            at("16 BACK round to side 0", x, 0, 0, 0, 0);
            x.put(0, p - 1);
            Due.runText(x, "b");
            at("16 BACK of the last side", x, 0, h - 1, 0, 0);
        }
    }

    /** "turned to the side h further on (round ..) than the one by which it came in" */
    private static void forwardGoesRound() {
        FarBoards x = new FarBoards();
        Due.runText(x, "f");
        at("16 in by side 0", x, 1, 3, 0, 1);
        x.put(2, 6);
        Due.runText(x, "f");
        at("16 in by side 1", x, 1, 4, 0, 1);
        x.put(28, 1);
        Due.runText(x, "f");
        at("16 in by side 5, round", x, 1, 1, 0, 1);
        x.put(7, 1);
        Due.runText(x, "f");
        at("16 in by the last side, round", x, 1, 2, 0, 1);
        x.put(10, 0);
        Due.runText(x, "f");
        at("16 in by side 2", x, 1, 5, 0, 1);
        x.put(9, 0);
        Due.runText(x, "f");
        at("16 in by side 3, to the last one", x, 1, 6, 0, 1);
        x.put(8, 0);
        Due.runText(x, "f");
        at("16 in by side 4, round to side 0", x, 1, 0, 0, 1);
        x.put(8, 6);
        Due.runText(x, "f");
        at("16 round the RING, to the last CELL", x, 28, 5, 0, 1);
        x.put(28, 2);
        Due.runText(x, "f");
        at("16 round the RING, to the first CELL", x, 8, 2, 0, 1);
    }

    /** "at an EDGE it stays, and counts a BUMP" */
    private static void bumpsAtAnEdge() {
        FarBoards x = new FarBoards();
        for (int s = 0; s < 7; s++) {
            x.put(8, s);
            Due.runText(x, "f");
            boolean edge = s >= 2 && s <= 5;
            Due.due("16 CELL behind side " + s, x.mouse(0), edge ? 8 : x.side(8, s));
            Due.due("16 BUMPS at side " + s, x.mouse(2), edge ? 1 : 0);
            Due.due("16 steps at side " + s, x.mouse(3), edge ? 0 : 1);
            if (edge) Due.due("16 it stays turned to side " + s, x.mouse(1), s);
        }
    }

    /** "2 BUMPS since put(), 3 steps since then (BUMPS not)": turns count as neither, texts are counted together. */
    private static void bumpsAreNoSteps() {
        FarBoards x = new FarBoards();
        Due.runText(x, "4f");
        at("16 two and two", x, 9, 3, 2, 2);
        Due.runText(x, "3l2r4b");
        Due.due("16 turns are no steps", x.mouse(3), 2);
        Due.due("16 turns are no BUMPS", x.mouse(2), 2);
        x.put(9, 3);
        Due.runText(x, "f");
        Due.runText(x, "f");
        at("16 texts are counted together", x, 9, 3, 2, 0);
        Due.runText(x, "fx");
        at("16 a FAULT counts nothing", x, 9, 3, 2, 0);
    }

    private static void ringNoughtAlone() {
        for (int p = 6; p <= 10; p++) {
            FarBoards x = Edges.on(p, 0);
            Due.runText(x, "20(20(5f))");
            at("16 alone it stays", x, 0, 0, 2000, 0);
            Due.runText(x, "lf");
            at("16 alone, LEFT", x, 0, p - 1, 2001, 0);
        }
    }

    private static void at(String what, FarBoards x, int cell, int side, int bumps, int steps) {
        String of = " of " + x.count(3) + " SIDES";
        Due.due(what + ", CELL" + of, x.mouse(0), cell);
        Due.due(what + ", side" + of, x.mouse(1), side);
        Due.due(what + ", BUMPS" + of, x.mouse(2), bumps);
        Due.due(what + ", steps" + of, x.mouse(3), steps);
    }
}
