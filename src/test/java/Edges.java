import java.util.Arrays;
import java.util.stream.IntStream;

/** Numbers at and beyond the ends of what is told, and the boards that the document allows. */
final class Edges {
    /** SIDES, RINGS and how many CELLS, of every BOARD that has no more than 400. */
    static final int[][] BOARDS = {
        {6, 0, 1}, {6, 1, 7}, {6, 2, 19}, {6, 3, 37}, {6, 4, 61}, {6, 5, 91},
        {7, 0, 1}, {7, 1, 8}, {7, 2, 29}, {7, 3, 85}, {7, 4, 232},
        {8, 0, 1}, {8, 1, 9}, {8, 2, 41}, {8, 3, 161},
        {9, 0, 1}, {9, 1, 10}, {9, 2, 55}, {9, 3, 271},
        {10, 0, 1}, {10, 1, 11}, {10, 2, 71},
    };

    /** Every BOARD of SIDES and RINGS as told that would have more. */
    static final int[][] TOO_LARGE = {
        {7, 5}, {8, 4}, {8, 5}, {9, 4}, {9, 5}, {10, 3}, {10, 4}, {10, 5},
    };

    private Edges() {
    }

    /**
     * Numbers that are not least to most: the first ones beyond both ends, the ends of int, and such as would become
     * small again cut to a byte or a short, or multiplied by eight, ten or sixty.
     */
    static int[] outside(int least, int most) {
        return IntStream.concat(Arrays.stream(above(most)), Arrays.stream(below(least))).toArray();
    }

    static int[] above(int most) {
        int[] some = {most + 1, 256, 65536, 71582789, 1 << 29, 429496730, Integer.MAX_VALUE - 1, Integer.MAX_VALUE};
        return Arrays.stream(some).filter(v -> v > most).toArray();
    }

    static int[] below(int least) {
        int[] some = {least - 1, -1, -8, -65536, Due.NONE, Due.BAD, Integer.MIN_VALUE + 1, Integer.MIN_VALUE};
        return Arrays.stream(some).filter(v -> v < least).distinct().toArray();
    }

    static FarBoards on(int p, int r) {
        FarBoards x = new FarBoards();
        x.board(p, r);
        return x;
    }

    /** n blanks and then a text on the tape. */
    static FarBoards fed(int blanks, String text) {
        FarBoards x = new FarBoards();
        Due.feedAll(x, " ".repeat(blanks) + text);
        return x;
    }
}
