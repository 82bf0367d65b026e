/** Promise 18, run, and the TEXTS of the Terms: FAULTS and SPENT. */
public final class P18RunTest {
    public static void main(String[] args) {
        Due.part(Due.Part.ORDINARY_USE);
        ordinaryUse();
        Due.part(Due.Part.EDGES);
        tapeWithNoBytes();
        tapeOfAllBytes();
        everyByteAlone();
        everyNumber();
        bracketsFourDeep();
        asOftenAsTheNumberSays();
        upToTwoThousand();
        Due.part(Due.Part.WRONG_NUMBERS);
        moreThanTwoFigures();
        numberBehindNumber();
        numberAheadOfNothing();
        fifthBracket();
        bracketsThatDoNotMeet();
        theEnd();
        firstTokenThatHasOne();
        moreThanTwoThousand();
        nothingIsDone();
        Due.endOfPromise();
    }

    private static void ordinaryUse() {
        FarBoards x = new FarBoards();
        // To 1 by its side 0, turned to 3, LEFT to 2; to 10 by its side 0, turned to 3, LEFT to 2; RIGHT to 3.
        Due.due("18 five acts", Due.runText(x, "2(fl)r"), 5);
        Due.due("18 at CELL 10", x.mouse(0), 10);
        Due.due("18 turned to side 3", x.mouse(1), 3);
        Due.due("18 two steps", x.mouse(3), 2);
        Due.due("18 the tape is empty", x.count(8), 0);
        Due.due("18 nothing more to do", x.run(), 0);
    }

    private static void tapeWithNoBytes() {
        FarBoards x = new FarBoards();
        Due.due("18 no bytes", x.run(), 0);
        Due.due("18 no FAULT", x.fault(), 0);
        Due.due("18 nor again", x.run(), 0);
        done(" ", 0);
        done("\n", 0);
        done(" \n\n ", 0);
        done("()", 0);
        done(" ( ) ", 0);
    }

    private static void tapeOfAllBytes() {
        done(" ".repeat(300), 0);
        done("r".repeat(300), 300);
        done("()".repeat(150), 0);
        done(" ".repeat(297) + "20r", 20);
        fault(" ".repeat(299) + "(", 300, 1);
        fault(" ".repeat(299) + "2", 300, 1);
        fault(" ".repeat(299) + "x", 299, 1);
        fault(" ".repeat(298) + "99", 298, 2);
        fault("1".repeat(300), 0, 1);
        fault("(".repeat(300), 4, 3);
        fault(")".repeat(300), 0, 1);
    }

    /** "letters f l r b, NUMBERS .., SIGNS ( ) bytes 32 and 10 between": every other byte "is none". */
    private static void everyByteAlone() {
        for (int b = 0; b < 256; b++) {
            String text = "" + (char) b;
            if (b == 32 || b == 10) {
                done(text, 0);
            } else if (b == 'f' || b == 'l' || b == 'r' || b == 'b') {
                done(text, 1);
                done("(" + text + ")" + text, 2);
            } else if (b == '(' || b >= '1' && b <= '9') {
                fault(text, 1, 1);
            } else if (b == '0') {
                fault(text, 0, 2);
            } else {
                fault(text, 0, 1);
                fault("r" + text, 1, 1);
                fault("(2" + text, 2, 1);
            }
        }
    }

    /** "the NUMBER (1 to 20)", "2 a NUMBER that is not 1 to 20" */
    private static void everyNumber() {
        for (int n = 0; n <= 99; n++) {
            String two = n < 10 ? "0" + n : "" + n;
            boolean fits = n >= 1 && n <= 20;
            for (String number : n < 10 ? new String[] {"" + n, two} : new String[] {two}) {
                if (fits) {
                    done(number + "r", n);
                    done(number + " (rl)", 2 * n);
                    done("(" + number + "\nb)", n);
                } else {
                    fault(number + "r", 0, 2);
                    fault("f " + number + "()", 2, 2);
                    fault(number, 0, 2);
                }
            }
        }
    }

    /** "NUMBERS (figures, 2 at most)": three figures are none, whatever they would tell. */
    private static void moreThanTwoFigures() {
        for (String figures : new String[] {"000", "001", "010", "020", "100", "120", "999", "0000", "0020", "1234"}) {
            fault(figures + "f", 0, 1);
            fault("r " + figures + "(f)", 2, 1);
        }
    }

    /** "1 it cannot stand there" ahead of "2 a NUMBER that is not 1 to 20": "of one TOKEN the least". */
    private static void numberBehindNumber() {
        fault("2 3f", 2, 1);
        fault("20\n20f", 3, 1);
        fault("2 0f", 2, 1);
        fault("2 21f", 2, 1);
        fault("2  99", 3, 1);
        fault("2 000f", 2, 1);
        fault("0 2f", 0, 2);
        fault("21 0f", 0, 2);
    }

    private static void numberAheadOfNothing() {
        fault("2", 1, 1);
        fault("2 ", 2, 1);
        fault("20", 2, 1);
        fault("(2)", 2, 1);
        fault("(f20)", 4, 1);
        fault("2)", 1, 1);
        fault("f2\n", 3, 1);
    }

    /** "brackets 4 deep at most" */
    private static void bracketsFourDeep() {
        done("(r)", 1);
        done("((((r))))", 1);
        done("((((r)r)r)r)r", 5);
        done("((((r))))((((r))))", 2);
        done("((((r)(r)(r))))", 3);
        done("(((()()())))()", 0);
        done("2(2(2(2(2r))))", 32);
        done("20(20(20(20())))", 0);
    }

    /** "3 the 5th bracket in one another" */
    private static void fifthBracket() {
        fault("(((((r)))))", 4, 3);
        fault("(((((", 4, 3);
        fault("( ( ( ( (", 8, 3);
        fault("((((r(r)))))", 5, 3);
        fault("((((2(r)))))", 5, 3);
        fault("((((20(", 6, 3);
        fault("((((r)((r)))))", 7, 3);
        fault("(((()((", 6, 3);
        fault("(((())((", 8, 1);
        fault("((((((", 4, 3);
    }

    private static void bracketsThatDoNotMeet() {
        fault(")", 0, 1);
        fault("r)", 1, 1);
        fault("(r))", 3, 1);
        fault("()())", 4, 1);
        fault("(", 1, 1);
        fault("(r", 2, 1);
        fault("((r)", 4, 1);
        fault("((((", 4, 1);
        fault("((((r)))", 8, 1);
    }

    /** "(the end, too: how many bytes there are)", blanks among them. */
    private static void theEnd() {
        fault("(r   ", 5, 1);
        fault("2 \n \n", 5, 1);
        fault("( ".repeat(4), 8, 1);
        fault("(" + " ".repeat(299), 300, 1);
        fault("20" + "\n".repeat(298), 300, 1);
        fault("r(" + " ".repeat(297), 299, 1);
    }

    /** "the first byte of the first TOKEN that has one" */
    private static void firstTokenThatHasOne() {
        fault("x0(((((", 0, 1);
        fault("0x", 0, 2);
        fault("(((((0", 4, 3);
        fault("r)0", 1, 1);
        fault("r 99 x", 2, 2);
        fault("   x", 3, 1);
        fault(" \n 21r", 3, 2);
        fault("r\tr", 1, 1);
        fault("rR", 1, 1);
        fault("2x3", 1, 1);
        fault("20(20(20(20(20(f", 14, 3);
    }

    /** "each (or what is in brackets) as often as the NUMBER (1 to 20) says" */
    private static void asOftenAsTheNumberSays() {
        done("rlb", 3);
        done("1r", 1);
        done("20r", 20);
        done("2r3l", 5);
        done("2(r3l)b", 9);
        done("2(3(r)l)b", 9);
        done("20(20(5(r)))", 2000);
        FarBoards x = new FarBoards();
        x.board(10, 0);
        Due.due("18 in their order", Due.runText(x, "3r2(rr)"), 7);
        Due.due("18 a NUMBER is for what is next alone", x.mouse(1), 7);
        Due.due("18 the brackets' one, too", Due.runText(x, "2()r"), 1);
        Due.due("18 so one side further", x.mouse(1), 8);
    }

    private static void upToTwoThousand() {
        done("5(20(20r))", 2000);
        done("20(20(5r))", 2000);
        done("20(20(5(r)))()", 2000);
        done("5(20(20r)) \n", 2000);
        done("()20(20(20(20())))5(20(20r))", 2000);
        done("5(20(19r))19(5r)5r", 2000);
        done("20(" + "r".repeat(100) + ")", 2000);
        done("4(20(20r))20(19r)20r", 2000);
        done("3(20r)".repeat(33) + "20r", 2000);
    }

    /** "SPENT (-1000900): more than 2000 acts" */
    private static void moreThanTwoThousand() {
        spent("5(20(20r))r");
        spent("r5(20(20r))");
        spent("3(20r)".repeat(33) + "20rr");
        spent("20(20(5r)r)");
        spent("20(20(6r))");
        spent("6(20(20r))");
        spent("20(" + "r".repeat(101) + ")");
        spent("20(20(20(20(20r))))");
        spent("20(20(20(20(" + "20f".repeat(90) + "))))");
        spent("20(20(20(20f)))".repeat(20));
        spent("5(20(20r))()r()");
        fault("20(20(20(20(20f))))x", 19, 1);
        fault("6(20(20r))0r", 10, 2);
        fault("6(20(20r)) (", 12, 1);
    }

    /** "nothing is done", and the tape is "empty then"; of SPENT "THE MOUSE stays". */
    private static void nothingIsDone() {
        String[] first = {"x", "0f", "((((("};
        String[][] texts = {{"fflx", "ff(2)", "ff2"}, {"ff0f", "ff 21 f"}, {"ff((((("}};
        int[][] places = {{3, 4, 3}, {2, 3}, {6}};
        for (int number = 1; number <= 3; number++) {
            String before = first[number - 1];
            Twins.Calls stage = x -> {
                Twins.stage(x);
                x.run();
                Due.runText(x, before);
            };
            for (int k = 0; k < texts[number - 1].length; k++) {
                String text = texts[number - 1][k];
                int want = -1000100 - places[number - 1][k];
                Twins.refused("18 run of '" + text + "'", stage, x -> Due.runText(x, text), want, 3);
            }
            Twins.refused("18 SPENT", stage, x -> Due.runText(x, "f5(20(20f))"), Due.SPENT, 3);
        }
    }

    private static void done(String text, int acts) {
        FarBoards x = new FarBoards();
        Due.due("18 run of '" + text + "'", Due.runText(x, text), acts);
        Due.due("18 no FAULT in '" + text + "'", x.fault(), 0);
        Due.due("18 the tape is empty behind '" + text + "'", x.count(8), 0);
    }

    private static void fault(String text, int place, int number) {
        FarBoards x = new FarBoards();
        Due.due("18 run of '" + text + "'", Due.runText(x, text), -1000100 - place);
        Due.due("18 FAULT of '" + text + "'", x.fault(), number);
        Due.due("18 the tape is empty behind '" + text + "'", x.count(8), 0);
        for (int what = 0; what <= 3; what++) Due.due("18 THE MOUSE, " + what, x.mouse(what), 0);
    }

    private static void spent(String text) {
        FarBoards x = new FarBoards();
        x.put(3, 2);
        Due.due("18 run of '" + text + "'", Due.runText(x, text), Due.SPENT);
        Due.due("18 SPENT is no FAULT", x.fault(), 0);
        Due.due("18 the tape is empty behind SPENT", x.count(8), 0);
        Due.due("18 THE MOUSE stays", x.mouse(0), 3);
        Due.due("18 as it was turned", x.mouse(1), 2);
        Due.due("18 no BUMPS", x.mouse(2), 0);
        Due.due("18 no steps", x.mouse(3), 0);
    }
}
