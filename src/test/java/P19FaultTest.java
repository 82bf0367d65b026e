/** Promise 19, fault. */
public final class P19FaultTest {
    public static void main(String[] args) {
        Due.part(Due.Part.ORDINARY_USE);
        ordinaryUse();
        Due.part(Due.Part.EDGES);
        noughtBeforeOne();
        eachNumber();
        theLatestOne();
        Due.part(Due.Part.WRONG_NUMBERS);
        whatIsNoFault();
        Due.endOfPromise();
    }

    private static void ordinaryUse() {
        FarBoards x = new FarBoards();
        Due.runText(x, "3x");
        Due.due("19 a letter that is none", x.fault(), 1);
        Due.runText(x, "f 30l");
        Due.due("19 a NUMBER above 20", x.fault(), 2);
        Due.runText(x, "fl");
        Due.due("19 behind a text without one", x.fault(), 2);
    }

    /** "0 before one" */
    private static void noughtBeforeOne() {
        FarBoards x = new FarBoards();
        Due.due("19 at first", x.fault(), 0);
        Due.runText(x, "f");
        Due.due("19 behind a text without one", x.fault(), 0);
        Due.runText(x, "20(20(20f))");
        Due.due("19 behind SPENT", x.fault(), 0);
        x.feed('x', 1);
        Due.due("19 ahead of run()", x.fault(), 0);
        x.feed('x', 9);
        x.board(5, 0);
        x.set(0, 0, 0);
        x.as(0, 1);
        Due.due("19 refusals and FINDINGS are none", x.fault(), 0);
    }

    private static void eachNumber() {
        for (String text : new String[] {"x", "f)", "(", "2", "000f"}) {
            FarBoards x = new FarBoards();
            Due.runText(x, text);
            Due.due("19 of '" + text + "'", x.fault(), 1);
        }
        for (String text : new String[] {"0f", "21f", "99", "00"}) {
            FarBoards x = new FarBoards();
            Due.runText(x, text);
            Due.due("19 of '" + text + "'", x.fault(), 2);
        }
        FarBoards x = new FarBoards();
        Due.runText(x, "(((((");
        Due.due("19 of five brackets", x.fault(), 3);
    }

    /** "The number of the latest FAULT" */
    private static void theLatestOne() {
        String[] texts = {"x", "0f", "(((((", "21f", "(", "(((((", "0f", "f)"};
        int[] want = {1, 2, 3, 2, 1, 3, 2, 1};
        FarBoards x = new FarBoards();
        for (int i = 0; i < texts.length; i++) {
            Due.runText(x, texts[i]);
            Due.due("19 the latest one, " + i, x.fault(), want[i]);
            Due.due("19 told again", x.fault(), want[i]);
        }
    }

    /** It stays behind a text without one, behind an empty tape, SPENT, a board anew and refusals. */
    private static void whatIsNoFault() {
        FarBoards x = new FarBoards();
        Due.runText(x, "(((((");
        Due.runText(x, "f");
        Due.due("19 a text without one", x.fault(), 3);
        x.run();
        Due.due("19 no bytes", x.fault(), 3);
        Due.runText(x, "20(20(20f))");
        Due.due("19 SPENT", x.fault(), 3);
        x.board(6, 1);
        Due.due("19 a board anew", x.fault(), 3);
        x.feed(0, 0);
        x.put(99, 0);
        Due.due("19 BAD", x.fault(), 3);
    }
}
