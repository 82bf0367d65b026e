/** Promises 15 to 19: put, mouse, feed, run, fault. */
public final class MouseTest {
    public static void main(String[] args) {
        refusals();
        feeding();
        turning();
        stepping();
        repeating();
        spending();
        faults();
        faultsAndState();
        Due.end();
    }

    private static void refusals() {
        FarBoards x = new FarBoards();
        Due.due("15 cell -1", x.put(-1, 0), Due.BAD);
        Due.due("15 cell 29", x.put(29, 0), Due.BAD);
        Due.due("15 side -1", x.put(0, -1), Due.BAD);
        Due.due("15 side 7", x.put(0, 7), Due.BAD);
        Due.due("15 put", x.put(28, 6), 1);
        at("15 put", x, 28, 6, 0, 0);
        Due.due("15 BAD", x.put(28, 7), Due.BAD);
        at("15 BAD changes nothing", x, 28, 6, 0, 0);
        Due.due("16 what -1", x.mouse(-1), Due.BAD);
        Due.due("16 what 4", x.mouse(4), Due.BAD);
    }

    private static void at(String what, FarBoards x, int cell, int side, int bumps, int steps) {
        Due.due(what + ", cell", x.mouse(0), cell);
        Due.due(what + ", side", x.mouse(1), side);
        Due.due(what + ", bumps", x.mouse(2), bumps);
        Due.due(what + ", steps", x.mouse(3), steps);
    }

    private static void feeding() {
        FarBoards x = new FarBoards();
        Due.due("17 n 0", x.feed(0, 0), Due.BAD);
        Due.due("17 n 9", x.feed(0, 9), Due.BAD);
        Due.due("17 n -1", x.feed(0, -1), Due.BAD);
        // The highest of the lowest two comes first: 'l' 'f', not 'f' 'l'; what is above them does not come.
        Due.due("17 two", x.feed(0x7878_6c66L, 2), 2);
        Due.due("17 done", x.run(), 2);
        at("17 first l, then f", x, 2, 3, 0, 1);
        Due.due("17 eight", x.feed(0xFF66_6666_6666_6666L, 8), 8);
        Due.due("17 the eighth byte", x.run(), -1000100);
        for (int i = 1; i <= 37; i++) {
            Due.due("17 on", x.feed(0x2020_2020_2020_2020L, 8), 8 * i);
        }
        Due.due("17 FULL", x.feed(0x2020_2020_2020_2020L, 5), Due.FULL);
        Due.due("17 none comes", x.count(8), 296);
        Due.due("17 up to the end", x.feed(0x2020_2066L, 4), 300);
        Due.due("17 FULL by one", x.feed(0x20, 1), Due.FULL);
        Due.due("17 BAD ahead of FULL", x.feed(0x20, 9), Due.BAD);
        Due.due("18 one act behind blanks", x.run(), 1);
        Due.due("18 empty then", x.count(8), 0);
    }

    private static void turning() {
        for (int p = 6; p <= 10; p++) {
            FarBoards x = new FarBoards();
            x.board(p, 1);
            for (int side = 0; side < p; side++) {
                x.put(0, side);
                Due.due("18 l", Due.runText(x, "l"), 1);
                at("18 l of " + p, x, 0, (side + p - 1) % p, 0, 0);
                x.put(0, side);
                Due.due("18 r", Due.runText(x, "r"), 1);
                at("18 r of " + p, x, 0, (side + 1) % p, 0, 0);
                x.put(0, side);
                Due.due("18 b", Due.runText(x, "b"), 1);
                at("18 b of " + p, x, 0, (side + p / 2) % p, 0, 0);
            }
        }
    }

    private static void stepping() {
        for (int p = 6; p <= 10; p++) {
            int cells = Edges.on(p, 2).count(1);
            for (int c = 0; c < cells; c++) {
                FarBoards x = Edges.on(p, 2);
                for (int side = 0; side < p; side++) {
                    x.put(c, side);
                    Due.due("18 f", Due.runText(x, "f"), 1);
                    int to = x.side(c, side);
                    if (to == Due.NONE) {
                        at("18 bump", x, c, side, 1, 0);
                    } else {
                        at("18 step", x, to, (x.by(to, c) + p / 2) % p, 0, 1);
                    }
                }
            }
        }
        FarBoards x = new FarBoards();
        Due.runText(x, "4f");
        at("16 both since put", x, 9, 3, 2, 2);
        Due.runText(x, "f");
        at("16 they go on", x, 9, 3, 3, 2);
        x.put(9, 3);
        at("16 anew with put", x, 9, 3, 0, 0);
        x.board(8, 0);
        Due.runText(x, "3f");
        at("18 a board of one cell", x, 0, 0, 3, 0);
    }

    private static void repeating() {
        FarBoards x = new FarBoards();
        acts(x, "", 0);
        acts(x, " \n ", 0);
        acts(x, "()", 0);
        acts(x, "20(20(20(20())))", 0);
        acts(x, "f l\nr b", 4);
        acts(x, "20f", 20);
        acts(x, "1f", 1);
        acts(x, "1(f)1l", 2);
        acts(x, "02f 2 0".substring(0, 3), 2);
        acts(x, "2 f", 2);
        acts(x, "3\n(\nf 2l )b", 10);
        acts(x, "2(3(4(5f)))", 120);
        acts(x, "2(3(f)l)r", 9);
        acts(x, "((((f))))", 1);
        acts(x, "()()()()()()(f)", 1);
        acts(x, "2(f2(l)3(r))b", 13);
        // What is in brackets is done in its order each time, not letter by letter.
        x.put(0, 0);
        acts(x, "2(fr)", 4);
        int side = (x.by(1, 0) + 3 + 1) % 7;
        int to = x.side(1, side);
        at("18 in order", x, to, (x.by(to, 1) + 3 + 1) % 7, 0, 2);
    }

    private static void acts(FarBoards x, String text, int want) {
        Due.due("18 run of '" + text + "'", Due.runText(x, text), want);
        Due.due("18 the tape is empty", x.count(8), 0);
    }

    private static void spending() {
        FarBoards x = new FarBoards();
        acts(x, "5(20(20r))", 2000);
        at("18 two thousand", x, 0, 2000 % 7, 0, 0);
        x.put(3, 2);
        acts(x, "5(20(20f))f", Due.SPENT);
        at("18 SPENT, the mouse stays", x, 3, 2, 0, 0);
        acts(x, "20(20(20(20f)))", Due.SPENT);
        acts(x, "20(20(20(20f)))20(20(20(20f)))20(20(20(20f)))x", -1000145);
        Due.due("19 a FAULT ahead of SPENT", x.fault(), 1);
        at("18 a FAULT, the mouse stays", x, 3, 2, 0, 0);
        acts(x, "20(20(5(f)))", 2000);
        acts(x, "20(20(5(f)))()", 2000);
        acts(x, "20(20(6(f)))", Due.SPENT);
        acts(x, "20(20(20(20())))f", 1);
        Due.due("19 SPENT is no FAULT", x.fault(), 1);
    }

    private static void faults() {
        fault("x", 0, 1);
        fault("F", 0, 1);
        fault("f\t", 1, 1);
        fault("f\0f", 1, 1);
        fault("ff\u00e6", 2, 1);
        fault(")", 0, 1);
        fault("f)", 1, 1);
        fault("(f))", 3, 1);
        fault("2)", 1, 1);
        fault("(2)", 2, 1);
        fault("(", 1, 1);
        fault("(f", 2, 1);
        fault("(f  ", 4, 1);
        fault("2", 1, 1);
        fault("f 2 \n", 5, 1);
        fault("2 3f", 2, 1);
        fault("2 99f", 2, 1);
        fault("2 0", 2, 1);
        fault("0", 0, 2);
        fault("00f", 0, 2);
        fault("f 21f", 2, 2);
        fault("99(", 0, 2);
        fault("0x", 0, 2);
        fault("000f", 0, 1);
        fault("001f", 0, 1);
        fault("f 1234", 2, 1);
        fault("(((((f)))))", 4, 3);
        fault("((((2(f)))))", 5, 3);
        fault("(((( (", 5, 3);
        fault("((((()x", 4, 3);
        fault("x0(((((", 0, 1);
        fault("2x", 1, 1);
        fault("f-1", 1, 1);
    }

    private static void fault(String text, int place, int number) {
        FarBoards x = new FarBoards();
        Due.due("18 run of '" + text + "'", Due.runText(x, text), -1000100 - place);
        Due.due("19 fault of '" + text + "'", x.fault(), number);
        Due.due("18 the tape is empty", x.count(8), 0);
        at("18 nothing is done", x, 0, 0, 0, 0);
    }

    private static void faultsAndState() {
        FarBoards x = new FarBoards();
        Due.due("19 before one", x.fault(), 0);
        Due.runText(x, "0f");
        Due.due("19 two", x.fault(), 2);
        Due.runText(x, "f");
        Due.due("19 the latest one", x.fault(), 2);
        Due.runText(x, "(((((");
        Due.due("19 three", x.fault(), 3);
        Due.runText(x, "ff9");
        Due.due("18 what was on the tape before is gone", Due.runText(x, "f2"), -1000102);
        Due.due("19 the end", x.fault(), 1);
        StringBuilder text = new StringBuilder();
        for (int i = 0; i < 299; i++) {
            text.append(' ');
        }
        text.append('(');
        Due.due("18 a FAULT behind the 300th byte", Due.runText(x, text.toString()), -1000400);
        Due.due("19 one", x.fault(), 1);
    }
}
