/** Promises 2 to 5 (sheet, set, copy, drop) and what they leave in status(), promise 36. */
public final class SheetsTest {
    public static void main(String[] args) {
        laying();
        setting();
        copying();
        dropping();
        statusOfCalls();
        Due.end();
    }

    private static void laying() {
        FarBoards x = new FarBoards();
        Due.due("2 no sheets at first", x.count(0), 0);
        Due.due("2 sheet(-1)", x.sheet(-1, 0, 1), Due.BAD);
        Due.due("2 sheet(8)", x.sheet(8, 0, 1), Due.BAD);
        Due.due("2 lane -1", x.sheet(0, -1, 1), Due.BAD);
        Due.due("2 lane 3", x.sheet(0, 3, 1), Due.BAD);
        Due.due("2 n 61", x.sheet(0, 0, 61), Due.BAD);
        Due.due("2 BAD ahead of SIZE", x.sheet(8, 0, -1), Due.BAD);
        Due.due("2 n -1", x.sheet(0, 0, -1), Due.SIZE_FOUND);
        Due.due("2 n least", x.sheet(0, 0, Integer.MIN_VALUE), Due.SIZE_FOUND);
        Due.due("2 nothing was laid", x.count(0), 0);
        Due.due("2 n 0", x.sheet(0, 0, 0), 0);
        Due.due("2 n 60", x.sheet(7, 2, 60), 60);
        Due.due("2 both are there", x.count(0), 2);
        x.set(7, 59, 3);
        x.set(7, 0, 3);
        Due.due("2 SIZE leaves what is there", x.sheet(7, 2, -1), Due.SIZE_FOUND);
        x.sheet(6, 2, 1);
        Due.due("2 as it was", x.copy(7, 59, 6, 0, 1), 1);
        Due.due("2 in place of what is there", x.sheet(7, 2, 60), 60);
        x.copy(7, 59, 6, 0, 1);
        Due.due("2 ITEMS are 0 at first", x.paints(0, 6, 0, 1), 1);
        x.paint(0, 3);
        x.paints(0, 7, 59, 1);
        Due.due("2 0 again, told by a colour", x.paint(0, 3), 0);
        x.paints(0, 7, 0, 1);
        Due.due("2 the first one, too", x.paint(0, 0), 0);
    }

    private static void setting() {
        FarBoards x = new FarBoards();
        Due.due("3 sheet -1", x.set(-1, 0, 0), Due.BAD);
        Due.due("3 sheet 8", x.set(8, 0, 0), Due.BAD);
        Due.due("3 missing", x.set(0, -1, 0), Due.NULL_FOUND);
        x.sheet(0, 0, 2);
        x.sheet(1, 1, 2);
        x.sheet(2, 2, 2);
        Due.due("3 place -1", x.set(0, -1, 0), Due.PLACE_FOUND);
        Due.due("3 place 2", x.set(0, 2, 0), Due.PLACE_FOUND);
        Due.due("3 place most", x.set(0, Integer.MAX_VALUE, 0), Due.PLACE_FOUND);
        Due.due("3 byte 127", x.set(0, 0, 127), 127);
        Due.due("3 byte 128", x.set(0, 0, 128), -128);
        Due.due("3 byte 255", x.set(0, 1, 255), -1);
        Due.due("3 byte 256", x.set(0, 1, 256), 0);
        Due.due("3 short 32767", x.set(1, 0, 32767), 32767);
        Due.due("3 short 32768", x.set(1, 0, 32768), -32768);
        Due.due("3 short 65537", x.set(1, 1, 65537), 1);
        Due.due("3 int most", x.set(2, 0, Integer.MAX_VALUE), Integer.MAX_VALUE);
        Due.due("3 int least", x.set(2, 1, Integer.MIN_VALUE), Integer.MIN_VALUE);
    }

    private static void copying() {
        FarBoards x = new FarBoards();
        x.sheet(0, 2, 5);
        x.sheet(1, 2, 3);
        x.sheet(2, 1, 3);
        for (int i = 0; i < 5; i++) {
            x.set(0, i, i % 4);
        }
        Due.due("4 a -1", x.copy(-1, 0, 0, 0, 0), Due.BAD);
        Due.due("4 b 8", x.copy(0, 0, 8, 0, 0), Due.BAD);
        Due.due("4 a missing", x.copy(3, 9, 0, 9, 9), Due.NULL_FOUND);
        Due.due("4 b missing, ahead of STORE and PLACE", x.copy(2, 9, 3, 9, 9), Due.NULL_FOUND);
        Due.due("4 STORE ahead of PLACE", x.copy(0, -1, 2, 0, 99), Due.STORE_FOUND);
        Due.due("4 STORE of no ITEMS", x.copy(0, 0, 2, 0, 0), Due.STORE_FOUND);
        Due.due("4 i -1", x.copy(0, -1, 1, 0, 1), Due.PLACE_FOUND);
        Due.due("4 j -1", x.copy(0, 0, 1, -1, 1), Due.PLACE_FOUND);
        Due.due("4 n -1", x.copy(0, 0, 1, 0, -1), Due.PLACE_FOUND);
        Due.due("4 beyond a", x.copy(0, 3, 1, 0, 3), Due.PLACE_FOUND);
        Due.due("4 beyond b", x.copy(0, 0, 1, 1, 3), Due.PLACE_FOUND);
        Due.due("4 sums that wrap", x.copy(0, 1, 1, 0, Integer.MAX_VALUE), Due.PLACE_FOUND);
        Due.due("4 i most", x.copy(0, Integer.MAX_VALUE, 1, 0, 1), Due.PLACE_FOUND);
        Due.due("4 none at the ends", x.copy(0, 5, 1, 3, 0), 0);
        Due.due("4 none beyond the end", x.copy(0, 6, 1, 3, 0), Due.PLACE_FOUND);
        Due.due("4 three", x.copy(0, 1, 1, 0, 3), 3);
        row("4 came", x, 1, 1, 2, 3);
        Due.due("4 overlapping on", x.copy(0, 0, 0, 1, 4), 4);
        row("4 as they were ahead", x, 0, 0, 0, 1, 2, 3);
        Due.due("4 overlapping back", x.copy(0, 2, 0, 1, 3), 3);
        row("4 as they were ahead, back", x, 0, 0, 1, 2, 3, 3);
    }

    /** A SHEET's ITEMS are told by the colours that paints() takes of them. */
    private static void row(String what, FarBoards x, int sheet, int... want) {
        x.paints(0, sheet, 0, want.length);
        for (int i = 0; i < want.length; i++) {
            Due.due(what + " at " + i, x.paint(i, 0), want[i]);
        }
    }

    private static void dropping() {
        FarBoards x = new FarBoards();
        Due.due("5 -1", x.drop(-1), Due.BAD);
        Due.due("5 8", x.drop(8), Due.BAD);
        Due.due("5 missing", x.drop(0), Due.NULL_FOUND);
        x.sheet(0, 1, 17);
        x.sheet(1, 1, 0);
        Due.due("5 seventeen", x.drop(0), 17);
        Due.due("5 none", x.drop(1), 0);
        Due.due("5 missing from now on", x.drop(0), Due.NULL_FOUND);
        Due.due("5 set of it", x.set(0, 0, 0), Due.NULL_FOUND);
        Due.due("5 no sheets", x.count(0), 0);
    }

    private static void statusOfCalls() {
        FarBoards x = new FarBoards();
        Due.due("36 at first", x.status(), 0);
        x.set(0, 0, 0);
        Due.due("36 NULL", x.status(), 1);
        x.set(8, 0, 0);
        Due.due("36 BAD leaves it", x.status(), 1);
        x.sheet(0, 0, 1);
        Due.due("36 none", x.status(), 0);
        x.set(0, 1, 0);
        Due.due("36 PLACE", x.status(), 2);
        x.board(10, 5);
        x.feed(0, 0);
        Due.due("36 calls without a SHEET leave it", x.status(), 2);
        x.as(0, 1);
        Due.due("36 KIND", x.status(), 3);
        x.as(0, 4);
        Due.due("36 as() that is BAD leaves it", x.status(), 3);
        x.sheet(0, 0, -1);
        Due.due("36 SIZE", x.status(), 4);
        x.sheet(1, 1, 1);
        x.copy(0, 0, 1, 0, 1);
        Due.due("36 STORE", x.status(), 5);
        x.as(0, 0);
        Due.due("36 as() clears it", x.status(), 0);
        x.drop(5);
        Due.due("36 drop NULL", x.status(), 1);
        x.drop(1);
        Due.due("36 drop", x.status(), 0);
        x.paints(0, 0, 1, 1);
        Due.due("36 paints PLACE", x.status(), 2);
        x.set(0, 0, 2);
        x.paints(0, 7, 0, 1);
        Due.due("36 paints NULL", x.status(), 1);
        x.paints(0, 0, 0, 1);
        Due.due("36 paints", x.status(), 0);
        x.set(0, 9, 0);
        x.sheet(2, 2, 1);
        x.set(2, 0, 4);
        x.set(0, 9, 0);
        x.paints(0, 2, 0, 1);
        Due.due("36 an ITEM that is BAD leaves it", x.status(), 2);
        x.board(7, 2);
        Due.due("36 a new board leaves it", x.status(), 2);
    }
}
