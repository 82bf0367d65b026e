import java.util.Random;

/** Long runs of calls, the same each time, that the class and the model must answer alike; promises 1 to 36. */
public final class ModelTest {
    private static final int RUNS = 1000;
    private static final int CALLS = 512;
    private static final int METHODS = 35;
    /** What one round may need at most: a text, byte by byte, and what is asked behind it. */
    private static final int DEAREST = 160;

    private final Random random;
    private final FarBoards x = new FarBoards();
    private final Model m = new Model();
    private int calls = 0;

    private ModelTest(int seed) {
        random = new Random(seed);
    }

    public static void main(String[] args) {
        for (int seed = 0; seed < RUNS && Due.wrong() < 20; seed++) {
            ModelTest test = new ModelTest(seed);
            while (test.calls <= CALLS - DEAREST) {
                test.call("run " + seed + ", call " + test.calls + ": ");
            }
            Due.holds("run " + seed + " took " + test.calls + " calls", test.calls <= CALLS);
        }
        Due.end();
    }

    /** Mostly a number of a range, now and then one at or beyond its ends, or far off. */
    private int pick(int least, int most) {
        int way = random.nextInt(40);
        if (way == 0) return least - 1;
        if (way == 1) return most + 1;
        if (way == 2) return least;
        if (way == 3) return most;
        if (way == 4) return new int[] {Integer.MIN_VALUE, Integer.MAX_VALUE, Due.NONE, -1, 0}[random.nextInt(5)];
        return most < least ? least : least + random.nextInt(most - least + 1);
    }

    private int cell() {
        return pick(0, m.count(1) - 1);
    }

    private int side() {
        return pick(0, m.count(3) - 1);
    }

    private int sheet() {
        return random.nextInt(3) > 0 ? pick(0, 2) : pick(0, 7);
    }

    private void call(String where) {
        int method = random.nextInt(METHODS);
        if (method == 4 && random.nextInt(4) > 0) method = 16;
        if (method < 9) {
            sheetsAndBoard(where, method);
        } else if (method < 18) {
            waysAndMouse(where, method);
        } else if (method < 29) {
            coloursAndLife(where, method);
        } else {
            asked(where, method);
        }
    }

    /** How many CELLS, RINGS and SIDES there are the model tells, so that every call of the class goes through here. */
    private void same(String call, int got, int want) {
        calls++;
        Due.due(call, got, want);
    }

    private void sheetsAndBoard(String where, int method) {
        int a = sheet();
        int b = sheet();
        int i = pick(0, 9);
        int j = pick(0, 9);
        int n = pick(0, 9);
        int v = random.nextInt(3) > 0 ? pick(0, 3) : random.nextInt();
        String of = where + "of " + a + " " + b + " " + i + " " + j + " " + n + " " + v;
        switch (method) {
            case 0:
                int lane = random.nextInt(2) > 0 ? 0 : pick(0, 2);
                int size = random.nextInt(3) > 0 ? pick(6, 12) : pick(0, 60);
                same(of + " sheet " + lane + " " + size, x.sheet(a, lane, size), m.sheet(a, lane, size));
                break;
            case 1: case 2: same(of + " set", x.set(a, i, v), m.set(a, i, v)); break;
            case 3: same(of + " copy", x.copy(a, i, b, j, n), m.copy(a, i, b, j, n)); break;
            case 4: case 5: boards(where, method); break;
            case 6:
                int what = pick(0, 5);
                int c = cell();
                same(where + "cell " + c + " " + what, x.cell(c, what), m.cell(c, what));
                break;
            case 7:
                int s = side();
                int d = cell();
                same(where + "side " + d + " " + s, x.side(d, s), m.side(d, s));
                break;
            default: same(of + " drop", x.drop(a), m.drop(a)); break;
        }
    }

    private void boards(String where, int method) {
        int p = pick(6, 10);
        if (method == 4) {
            int r = pick(0, 5);
            same(where + "board " + p + " " + r, x.board(p, r), m.board(p, r));
            return;
        }
        int n = pick(0, 60);
        int what = pick(0, 3);
        same(where + "grown " + p + " " + n + " " + what, x.grown(p, n, what), m.grown(p, n, what));
    }

    private void waysAndMouse(String where, int method) {
        int a = cell();
        int b = cell();
        int n = pick(0, 30);
        String of = where + "of " + a + " " + b + " " + n;
        switch (method) {
            case 9: same(of + " by", x.by(a, b), m.by(a, b)); break;
            case 10:
                int what = pick(0, 1);
                same(of + " far " + what, x.far(a, b, what), m.far(a, b, what));
                break;
            case 11:
                int i = pick(0, 5);
                same(of + " way " + i, x.way(a, b, i), m.way(a, b, i));
                break;
            case 12: same(of + " walks", x.walks(a, b, n), m.walks(a, b, n)); break;
            case 13:
                int far = pick(0, 20);
                far = random.nextBoolean() ? far : pick(0, 4);
                same(of + " around " + far, x.around(a, far), m.around(a, far));
                break;
            case 14:
                int s = side();
                same(of + " put " + s, x.put(a, s), m.put(a, s));
                break;
            case 15:
                int told = pick(0, 3);
                same(of + " mouse " + told, x.mouse(told), m.mouse(told));
                break;
            case 16:
                texts(where);
                break;
            default: same(of + " fault", x.fault(), m.fault()); break;
        }
    }

    private void texts(String where) {
        StringBuilder text = new StringBuilder();
        write(text, 0);
        if (random.nextInt(3) == 0 && text.length() > 0) {
            String signs = "flrb()0123456789 \nxF\0\t";
            text.setCharAt(random.nextInt(text.length()), signs.charAt(random.nextInt(signs.length())));
        }
        if (random.nextInt(20) == 0) text.append((char) random.nextInt(256));
        for (int i = 0; i < text.length();) {
            int n = Math.min(text.length() - i, 1 + random.nextInt(8));
            long w = random.nextLong();
            for (int k = 0; k < n; k++) w = w << 8 | text.charAt(i + k);
            same(where + "feed " + w + " " + n, x.feed(w, n), m.feed(w, n));
            i += n;
        }
        int odd = pick(1, 8);
        if (random.nextInt(10) == 0) same(where + "feed " + odd, x.feed(102, odd), m.feed(102, odd));
        if (random.nextInt(10) > 0) {
            same(where + "run of '" + text + "'", x.run(), m.run());
            same(where + "fault of it", x.fault(), m.fault());
            for (int what = 0; what < 4; what++) same(where + "mouse " + what, x.mouse(what), m.mouse(what));
        }
    }

    private void write(StringBuilder text, int depth) {
        int parts = random.nextInt(5);
        for (int i = 0; i < parts; i++) {
            if (random.nextInt(4) == 0) text.append(random.nextBoolean() ? ' ' : '\n');
            if (random.nextInt(3) == 0) text.append(random.nextInt(40) == 0 ? pick(0, 21) : 1 + random.nextInt(20));
            if (random.nextInt(5) == 0) text.append(' ');
            if (random.nextInt(3) == 0 && depth < 4 || random.nextInt(60) == 0 && depth < 6) {
                text.append('(');
                write(text, depth + 1);
                text.append(')');
            } else {
                text.append("fffflrb".charAt(random.nextInt(7)));
            }
        }
    }

    private void coloursAndLife(String where, int method) {
        int a = cell();
        int t = side();
        int k = pick(1, 4);
        int most = pick(1, Math.min(16, m.count(1)));
        String of = where + "of " + a + " " + t + " " + k + " " + most;
        switch (method) {
            case 18:
                int v = random.nextInt(6) == 0 ? Due.NONE : pick(0, 3);
                same(of + " paint " + v, x.paint(a, v), m.paint(a, v));
                break;
            case 19: painting(where); break;
            case 20: same(of + " clashes", x.clashes(), m.clashes()); break;
            case 21: same(of + " coloured", x.coloured(most, k), m.coloured(most, k)); break;
            case 22:
                int i = pick(0, Math.max(1, Math.min(most, 17)) - 1);
                same(of + " found " + i, x.found(most, k, i), m.found(most, k, i));
                break;
            case 23: case 24:
                int lives = random.nextInt(4) > 0 ? 1 : pick(0, 1);
                same(of + " live", x.live(a, lives), m.live(a, lives));
                break;
            case 25: stepping(where); break;
            case 26:
                int ring = random.nextInt(4) == 0 ? Due.NONE : pick(0, m.count(2));
                same(of + " living " + ring, x.living(ring), m.living(ring));
                break;
            case 27: same(of + " turned", x.turned(a, t), m.turned(a, t)); break;
            default: same(of + " alike", x.alike(t), m.alike(t)); break;
        }
    }

    private void painting(String where) {
        int a = cell();
        int s = sheet();
        int i = pick(0, 5);
        int n = pick(1, 5);
        same(where + "paints " + a + " " + s + " " + i + " " + n, x.paints(a, s, i, n), m.paints(a, s, i, n));
    }

    private void stepping(String where) {
        int born = pick(0, 2047);
        int stay = pick(0, 2047);
        int n = random.nextInt(3) > 0 ? pick(1, 3) : pick(1, 50);
        same(where + "steps " + born + " " + stay + " " + n, x.steps(born, stay, n), m.steps(born, stay, n));
        for (int k = 0; k < 40; k++) {
            int c = random.nextInt(m.count(1));
            int lives = random.nextInt(2);
            same(where + "life of " + c, x.live(c, lives), m.live(c, lives));
        }
    }

    private void asked(String where, int method) {
        int a = cell();
        switch (method) {
            case 29:
                int ring = pick(0, m.count(2));
                same(where + "orbits " + ring, x.orbits(ring), m.orbits(ring));
                break;
            case 30: same(where + "kind " + a, x.kind(a), m.kind(a)); break;
            case 31:
                int kind = pick(0, 3);
                same(where + "as " + a + " " + kind, x.as(a, kind), m.as(a, kind));
                break;
            case 32:
                int what = pick(0, 1);
                same(where + "ask " + a + " " + what, x.ask(a, what), m.ask(a, what));
                break;
            case 33:
                int i = pick(0, 4);
                same(where + "trace " + i, x.trace(i), m.trace(i));
                break;
            default:
                int of = pick(0, 8);
                same(where + "count " + of, x.count(of), m.count(of));
                break;
        }
        same(where + "status", x.status(), m.status());
    }
}
