import java.lang.reflect.Method;
import java.util.ArrayList;
import java.util.Arrays;
import java.util.List;

/**
 * Every call with every row of numbers from the ends of int, from both ends of what is told and from around 0: none
 * throws, and each answers what the model does. Objects are made anew before their 512th call.
 */
public final class ExtremesTest {
    private static final int[] FEW = {
        Integer.MIN_VALUE, -1, 0, 1, 5, 6, 7, 60, Integer.MAX_VALUE,
    };
    private static final int[] MANY = {
        Integer.MIN_VALUE, Integer.MIN_VALUE + 1, Due.BAD, Due.NONE, -1, 0, 1, 2, 3, 4, 5, 6, 7, 8, 9, 10, 11, 16, 17,
        18, 19, 20, 21, 30, 31, 50, 51, 60, 61, 255, 256, 429496730, 2047, 2048, Integer.MAX_VALUE - 1, Integer.MAX_VALUE,
    };
    private static final String[] STAGE = {
        "board 6 2", "sheet 0 0 5", "sheet 1 1 7", "sheet 5 2 60", "sheet 6 2 60", "sheet 7 2 0", "set 0 4 3", "set 5 59 3",
        "paint 18 -1000000", "live 7 1", "live 18 1", "put 18 5", "feed 102 1", "run", "feed 120 1", "run", "ask 18 0",
        "feed 102 1", "as 0 1",
    };

    private FarBoards x;
    private Model m;
    private int calls;

    public static void main(String[] args) throws Exception {
        ExtremesTest test = new ExtremesTest();
        for (Method method : FarBoards.class.getDeclaredMethods()) {
            if (!java.lang.reflect.Modifier.isPublic(method.getModifiers())) continue;
            test.every(method);
            if (Due.wrong() > 20) break;
        }
        Due.end();
    }

    private void anew() throws Exception {
        x = new FarBoards();
        m = new Model();
        calls = STAGE.length;
        for (String call : STAGE) {
            String[] parts = call.split(" ");
            int[] numbers = Arrays.stream(parts).skip(1).mapToInt(Integer::parseInt).toArray();
            for (Method method : FarBoards.class.getDeclaredMethods()) {
                if (method.getName().equals(parts[0])) both(method, numbers);
            }
        }
    }

    private void every(Method method) throws Exception {
        int places = method.getParameterCount();
        int[] some = places > 3 ? FEW : MANY;
        List<int[]> rows = new ArrayList<>();
        rows.add(new int[0]);
        for (int k = 0; k < places; k++) {
            List<int[]> longer = new ArrayList<>();
            for (int[] row : rows) {
                for (int v : some) {
                    int[] next = Arrays.copyOf(row, k + 1);
                    next[k] = v;
                    longer.add(next);
                }
            }
            rows = longer;
        }
        // coloured() and found() of many CELLS take the model long: it tries every row.
        boolean slow = method.getName().equals("coloured") || method.getName().equals("found");
        anew();
        for (int[] row : rows) {
            if (calls > 480) anew();
            if (slow && row[0] > 9 && row[0] <= 16 && row[1] == 4) continue;
            both(method, row);
        }
    }

    private void both(Method method, int[] numbers) throws Exception {
        calls++;
        Object[] given = new Object[numbers.length];
        for (int i = 0; i < given.length; i++) {
            given[i] = method.getParameterTypes()[i] == long.class ? (Object) (long) numbers[i] : (Object) numbers[i];
        }
        Method due = Model.class.getDeclaredMethod(method.getName(), method.getParameterTypes());
        String what = method.getName() + Arrays.toString(numbers);
        try {
            int got = (Integer) method.invoke(x, given);
            Due.due(what, got, (Integer) due.invoke(m, given));
        } catch (java.lang.reflect.InvocationTargetException thrown) {
            Due.holds(what + " threw " + thrown.getCause(), false);
        }
    }
}
