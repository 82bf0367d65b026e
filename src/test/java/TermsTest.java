import java.lang.reflect.Method;
import java.lang.reflect.Modifier;
import java.util.Arrays;

/** "Terms": what refusals are, which goes ahead of which, and what they leave as it was. */
public final class TermsTest {
    public static void main(String[] args) throws ReflectiveOperationException {
        numbersOfRefusals();
        noStateIsTold();
        numbersOfFindings();
        badAheadOfFull();
        badAheadOfFindings();
        findingsInTime();
        faultsAheadOfSpent();
        manyRefusalsInARow();
        Due.end();
    }

    private static void numbersOfRefusals() {
        Due.due("Terms NONE", FarBoards.NONE, -1000000);
        Due.due("Terms BAD", FarBoards.BAD, -1000001);
        Due.due("Terms STATE", FarBoards.STATE, -1000002);
        Due.due("Terms FULL", FarBoards.FULL, -1000003);
        FarBoards x = new FarBoards();
        Due.due("Terms NONE is answered", x.trace(0), FarBoards.NONE);
        Due.due("Terms BAD is answered", x.kind(29), FarBoards.BAD);
        Due.due("Terms FULL is answered", x.board(10, 3), FarBoards.FULL);
    }

    /** "STATE (as told)": no promise tells a case of it, so no call answers it, ordinary or refused. */
    private static void noStateIsTold() throws ReflectiveOperationException {
        int[] numbers = {Integer.MIN_VALUE, -1, 0, 1, 2, 5, 18, 19, 61, Integer.MAX_VALUE};
        for (Method method : FarBoards.class.getDeclaredMethods()) {
            if (!Modifier.isPublic(method.getModifiers())) continue;
            FarBoards x = new FarBoards();
            Twins.stage(x);
            for (int k = 0; k < 300; k++) {
                Object[] given = new Object[method.getParameterCount()];
                for (int i = 0; i < given.length; i++) {
                    int v = numbers[(k / (1 + 2 * i) + k * i) % numbers.length];
                    given[i] = method.getParameterTypes()[i] == long.class ? (Object) (long) v : (Object) v;
                }
                boolean state = (Integer) method.invoke(x, given) == FarBoards.STATE;
                Due.holds("Terms STATE of " + method.getName() + Arrays.toString(given), !state);
            }
        }
    }

    /** "-1000010 less 1 NULL .., 2 PLACE .., 3 KIND .., 4 SIZE .., 5 STORE" */
    private static void numbersOfFindings() {
        FarBoards x = new FarBoards();
        Due.due("Terms NULL", x.drop(0), -1000011);
        x.sheet(0, 0, 1);
        x.sheet(1, 1, 1);
        Due.due("Terms PLACE", x.set(0, 1, 0), -1000012);
        Due.due("Terms KIND", x.as(0, 1), -1000013);
        Due.due("Terms SIZE", x.sheet(0, 0, -1), -1000014);
        Due.due("Terms STORE", x.copy(0, 0, 1, 0, 1), -1000015);
    }

    private static void badAheadOfFull() {
        Twins.bad("Terms board: p and too many CELLS", x -> x.board(11, 5));
        Twins.bad("Terms board: r and too many CELLS", x -> x.board(10, 6));
        Twins.Calls full = x -> {
            Twins.stage(x);
            Due.feedAll(x, " ".repeat(300 - x.count(8)));
        };
        Twins.bad("Terms feed: n 0 and a full tape", full, x -> x.feed(32, 0));
        Twins.bad("Terms feed: n 9 and a full tape", full, x -> x.feed(32, 9));
    }

    private static void badAheadOfFindings() {
        Twins.bad("Terms sheet: SHEET and SIZE", x -> x.sheet(8, 0, -1));
        Twins.bad("Terms sheet: LANE and SIZE", x -> x.sheet(0, 3, -1));
        Twins.bad("Terms set: SHEET and PLACE", x -> x.set(8, -1, 0));
        Twins.bad("Terms copy: a, b missing, PLACE", x -> x.copy(8, -1, 3, -1, -1));
        Twins.bad("Terms copy: b, a missing, PLACE", x -> x.copy(3, -1, 8, -1, -1));
        Twins.bad("Terms paints: CELL, missing, PLACE", x -> x.paints(19, 3, -1, 1));
        Twins.bad("Terms paints: n, missing, PLACE", x -> x.paints(0, 3, -1, 0));
        Twins.bad("Terms as: CELL, KIND", x -> x.as(19, 3));
    }

    /** "of several the first in time" */
    private static void findingsInTime() {
        Twins.found("Terms set: NULL, PLACE", x -> x.set(3, -1, 0), 1);
        Twins.found("Terms copy: NULL, PLACE", x -> x.copy(3, -1, 0, -1, -1), 1);
        Twins.found("Terms copy: NULL, STORE, PLACE", x -> x.copy(1, -1, 3, 99, -1), 1);
        Twins.found("Terms copy: STORE, PLACE", x -> x.copy(1, -1, 0, 99, -1), 5);
        Twins.found("Terms paints: NULL, PLACE", x -> x.paints(0, 3, -1, 1), 1);
    }

    private static void faultsAheadOfSpent() {
        FarBoards x = new FarBoards();
        Due.due("Terms a FAULT behind too many acts", Due.runText(x, "20(20(20f))x"), -1000111);
        Due.due("Terms its number", x.fault(), 1);
        Due.due("Terms a FAULT within too many acts", Due.runText(x, "20(20(20f0f))"), -1000109);
        Due.due("Terms that one's number", x.fault(), 2);
        Due.due("Terms too many acts alone", Due.runText(x, "20(20(20f))"), Due.SPENT);
        Due.due("Terms the FAULT's number stays", x.fault(), 2);
    }

    /** "What is refused, or found, changes nothing but status()." */
    private static void manyRefusalsInARow() {
        Twins.Call all = x -> {
            int sum = x.sheet(0, 0, -1) + x.sheet(0, 0, 61) + x.set(0, 5, 1) + x.set(3, 0, 1) + x.copy(0, 0, 0, 1, 5);
            sum += x.copy(0, 0, 1, 0, 1) + x.drop(3) + x.board(10, 3) + x.board(6, 6) + x.cell(19, 0) + x.side(0, 6);
            sum += x.by(0, 19) + x.grown(6, 61, 0) + x.far(0, 19, 0) + x.way(0, 1, -1) + x.walks(0, 0, 31);
            sum += x.around(0, 21) + x.put(0, 6) + x.mouse(4) + x.feed(0, 0) + x.paint(0, 4) + x.paints(0, 0, 5, 1);
            sum += x.paints(18, 0, 0, 2) + x.coloured(17, 4) + x.found(3, 3, 3) + x.live(0, 2) + x.steps(2048, 0, 1);
            sum += x.living(3) + x.turned(0, 6) + x.alike(6) + x.orbits(3) + x.kind(19) + x.as(19, 0) + x.ask(0, 2);
            return sum + x.count(9) + x.as(0, 3);
        };
        int want = Due.FULL + 27 * Due.BAD;
        int[] findings = {4, 2, 1, 2, 5, 1, 2, 3};
        for (int number : findings) want += -1000010 - number;
        Twins.refused("Terms many refusals in a row", Twins::stage, all, want, 3);
    }
}
