import java.util.ArrayList;
import java.util.List;

/**
 * Two objects with the same calls behind them. One of them gets one call more, and both are then asked for all that
 * can be asked: "What is refused, or found, changes nothing but status()."
 */
final class Twins {
    interface Calls {
        void on(FarBoards x);
    }

    interface Call {
        int on(FarBoards x);
    }

    /** What status() tells after stage(). */
    private static final int STAGED = 3;

    private Twins() {
    }

    /**
     * Something of everything: six SIDES and two RINGS (19 CELLS), SHEETS 0 (five bytes), 1 (four shorts), 2 (three
     * ints) and 4 (no bytes), colours, life, THE MOUSE under way, a FAULT, THE TRACE, bytes on the tape, a FINDING.
     */
    static void stage(FarBoards x) {
        x.board(6, 2);
        x.sheet(0, 0, 5);
        x.sheet(1, 1, 4);
        x.sheet(2, 2, 3);
        x.sheet(4, 0, 0);
        for (int i = 0; i < 5; i++) x.set(0, i, i % 3 + 1);
        for (int i = 0; i < 4; i++) x.set(1, i, 3 - i);
        for (int i = 0; i < 3; i++) x.set(2, i, i + 1);
        for (int c = 0; c < 19; c++) x.paint(c, c % 5 == 4 ? Due.NONE : c % 5);
        for (int c = 0; c < 19; c += 3) x.live(c, 1);
        Due.runText(x, "f0f");
        x.put(1, 2);
        Due.runText(x, "ffl");
        x.ask(8, 0);
        Due.feedAll(x, "2(fr)lb");
        x.as(0, 1);
    }

    /** BAD, which leaves status(), too. */
    static void bad(String what, Call call) {
        refused(what, Twins::stage, call, Due.BAD, STAGED);
    }

    static void bad(String what, Calls stage, Call call) {
        refused(what, stage, call, Due.BAD, status(stage));
    }

    /** FULL, which leaves status(), too. */
    static void full(String what, Calls stage, Call call) {
        refused(what, stage, call, Due.FULL, status(stage));
    }

    /** A FINDING, which leaves its number in status() and nothing else. */
    static void found(String what, Call call, int number) {
        found(what, Twins::stage, call, number);
    }

    static void found(String what, Calls stage, Call call, int number) {
        refused(what, stage, call, -1000010 - number, number);
    }

    /** A call that only asks. */
    static void asks(String what, Call call, int want) {
        refused(what, Twins::stage, call, want, STAGED);
    }

    private static int status(Calls stage) {
        FarBoards x = new FarBoards();
        stage.on(x);
        return x.status();
    }

    static void refused(String what, Calls stage, Call call, int want, int status) {
        FarBoards without = new FarBoards();
        FarBoards with = new FarBoards();
        stage.on(without);
        stage.on(with);
        Due.due(what, call.on(with), want);
        Due.due(what + ", status() then", with.status(), status);
        List<String> left = told(without);
        List<String> kept = told(with);
        for (int i = 0; i < Math.max(left.size(), kept.size()); i++) {
            String a = i < left.size() ? left.get(i) : "nothing";
            String b = i < kept.size() ? kept.get(i) : "nothing";
            if (!a.equals(b)) Due.holds(what + " changed something: " + a + " became " + b, false);
        }
    }

    /** All but status(), by some 300 calls; what they change on the way they change for both. */
    private static List<String> told(FarBoards x) {
        List<String> all = new ArrayList<>();
        for (int what = 0; what <= 8; what++) all.add("count(" + what + ") " + x.count(what));
        for (int i = 0; i <= 16; i++) all.add("trace(" + i + ") " + x.trace(i));
        for (int what = 0; what <= 3; what++) all.add("mouse(" + what + ") " + x.mouse(what));
        all.add("fault() " + x.fault());
        int cells = Math.min(19, x.count(1));
        for (int c = 0; c < cells; c++) {
            all.add("kind(" + c + ") " + x.kind(c));
            for (int s = 0; s < 6; s++) all.add("side(" + c + ", " + s + ") " + x.side(c, s));
        }
        for (int c = 0; c < cells; c++) all.add("colour of " + c + ": " + x.paint(c, 0));
        for (int c = 0; c < cells; c++) all.add("life of " + c + ": " + x.live(c, 0));
        sheets(x, all);
        all.add("run() " + x.run());
        for (int what = 0; what <= 3; what++) all.add("mouse(" + what + ") behind it " + x.mouse(what));
        return all;
    }

    private static void sheets(FarBoards x, List<String> all) {
        for (int sheet = 0; sheet < 5; sheet++) {
            for (int i = 0; i < 6; i++) {
                int n = x.paints(0, sheet, i, 1);
                all.add("ITEM " + i + " of SHEET " + sheet + ": " + n + " " + x.paint(0, 0));
            }
        }
        for (int sheet = 0; sheet < 8; sheet++) {
            all.add("LANE of SHEET " + sheet + ", by what it keeps of 40000: " + x.set(sheet, 0, 40000));
            all.add("SHEET " + sheet + " had " + x.drop(sheet));
        }
    }
}
