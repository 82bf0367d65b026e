import java.math.BigInteger;
import java.util.ArrayList;
import java.util.Arrays;
import java.util.HashMap;
import java.util.HashSet;
import java.util.List;
import java.util.Map;
import java.util.Set;

/**
 * A second reading of the document, written without a look at speed or room and by other means than the class: cells
 * are objects of a tree of kinds, sheets are arrays that may be null, texts are read by descent. ModelTest has both
 * answer the same calls.
 */
final class Model {
    private static final BigInteger MODULUS = BigInteger.valueOf(1000000007);

    static class Cell {
        int number;
        int ring;
        int place;
        final List<Cell> parents = new ArrayList<>();
        final List<Cell> children = new ArrayList<>();
        Cell[] sides;
        int colour = 0;
        boolean lives = false;
        List<Integer> trace;

        int size() {
            trace.add(10);
            return ring;
        }

        int mark() {
            trace.add(20);
            return number;
        }
    }

    static final class Lone extends Cell {
        @Override int size() {
            trace.add(11);
            return super.size() + children.size();
        }

        @Override int mark() {
            trace.add(21);
            return super.mark() + 1000;
        }
    }

    static final class Paired extends Cell {
        @Override int size() {
            trace.add(12);
            return super.size() + parents.get(0).number + parents.get(1).number;
        }

        @Override int mark() {
            trace.add(22);
            return super.mark() + size();
        }
    }

    static final class Rim extends Cell {
        @Override int size() {
            trace.add(13);
            return super.size() - mark();
        }

        @Override int mark() {
            trace.add(23);
            return super.mark() * 2;
        }
    }

    private final int[][] items = new int[8][];
    private final int[] lanes = new int[8];
    private int p;
    private List<List<Cell>> rings;
    private List<Cell> cells;
    private List<Integer> trace = new ArrayList<>();
    private Cell at;
    private int facing;
    private int bumps;
    private int stepped;
    private String tape = "";
    private int fault = 0;
    private int status = 0;

    Model() {
        build(7, 2);
    }

    // ---- sheets

    private int find(int number) {
        status = number;
        return -1000010 - number;
    }

    private int fine(int answer) {
        status = 0;
        return answer;
    }

    private static boolean in(int v, int least, int most) {
        return v >= least && v <= most;
    }

    int sheet(int sheet, int lane, int n) {
        if (!in(sheet, 0, 7) || !in(lane, 0, 2) || n > 60) return Due.BAD;
        if (n < 0) return find(4);
        items[sheet] = new int[n];
        lanes[sheet] = lane;
        return fine(n);
    }

    int set(int sheet, int i, int v) {
        if (!in(sheet, 0, 7)) return Due.BAD;
        if (items[sheet] == null) return find(1);
        if (!in(i, 0, items[sheet].length - 1)) return find(2);
        int drop = new int[] {24, 16, 0}[lanes[sheet]];
        items[sheet][i] = v << drop >> drop;
        return fine(items[sheet][i]);
    }

    int copy(int a, int i, int b, int j, int n) {
        if (!in(a, 0, 7) || !in(b, 0, 7)) return Due.BAD;
        if (items[a] == null || items[b] == null) return find(1);
        if (lanes[a] != lanes[b]) return find(5);
        if (i < 0 || j < 0 || n < 0) return find(2);
        if ((long) i + n > items[a].length || (long) j + n > items[b].length) return find(2);
        int[] before = items[a].clone();
        for (int k = 0; k < n; k++) items[b][j + k] = before[i + k];
        return fine(n);
    }

    int drop(int sheet) {
        if (!in(sheet, 0, 7)) return Due.BAD;
        if (items[sheet] == null) return find(1);
        int n = items[sheet].length;
        items[sheet] = null;
        return fine(n);
    }

    // ---- the board

    int board(int sides, int r) {
        if (!in(sides, 6, 10) || !in(r, 0, 5)) return Due.BAD;
        if (growth(sides, r).get(3).intValue() > 400) return Due.FULL;
        build(sides, r);
        return cells.size();
    }

    private Cell add(List<Cell> ring, int r, Cell... parents) {
        int number = rings.size();
        Cell c = number == r && r > 0 ? new Rim()
            : parents.length == 2 ? new Paired() : parents.length == 1 ? new Lone() : new Cell();
        c.number = cells.size();
        c.ring = number;
        c.place = ring.size();
        c.parents.addAll(Arrays.asList(parents));
        c.trace = trace;
        ring.add(c);
        cells.add(c);
        return c;
    }

    private static Cell behind(List<Cell> ring, Cell c) {
        return ring.get((c.place + 1) % ring.size());
    }

    private static Cell ahead(List<Cell> ring, Cell c) {
        return ring.get((c.place + ring.size() - 1) % ring.size());
    }

    private void build(int sides, int r) {
        p = sides;
        rings = new ArrayList<>();
        cells = new ArrayList<>();
        List<Cell> ring = new ArrayList<>();
        add(ring, r);
        rings.add(ring);
        for (int n = 1; n <= r; n++) {
            List<Cell> inner = ring;
            ring = new ArrayList<>();
            Map<Cell, List<Cell>> own = new HashMap<>();
            Map<Cell, Cell> shared = new HashMap<>();
            for (Cell c : inner) {
                own.put(c, new ArrayList<>());
                int count = n == 1 ? p : p - 4 - c.parents.size();
                for (int i = 0; i < count; i++) own.get(c).add(add(ring, r, c));
                if (n > 1) shared.put(c, add(ring, r, c, behind(inner, c)));
            }
            for (Cell c : inner) {
                if (n > 1) c.children.add(shared.get(ahead(inner, c)));
                c.children.addAll(own.get(c));
                if (n > 1) c.children.add(shared.get(c));
            }
            rings.add(ring);
        }
        for (Cell c : cells) layRound(c);
        set0();
    }

    private void set0() {
        at = cells.get(0);
        facing = 0;
        bumps = 0;
        stepped = 0;
    }

    private void layRound(Cell c) {
        List<Cell> round = new ArrayList<>();
        if (c.number == 0) {
            if (rings.size() > 1) {
                round.add(cells.get(1));
                for (int i = p; i >= 2; i--) round.add(cells.get(i));
            } else {
                while (round.size() < p) round.add(null);
            }
        } else {
            round.addAll(c.parents);
            round.add(behind(rings.get(c.ring), c));
            for (int i = c.children.size() - 1; i >= 0; i--) round.add(c.children.get(i));
            while (round.size() < p - 1) round.add(null);
            round.add(ahead(rings.get(c.ring), c));
        }
        if (round.size() != p) throw new IllegalStateException("a cell of " + round.size() + " sides");
        c.sides = round.toArray(new Cell[0]);
    }

    private boolean isCell(int c) {
        return in(c, 0, cells.size() - 1);
    }

    private static int numberOf(Cell c) {
        return c == null ? Due.NONE : c.number;
    }

    int cell(int cell, int what) {
        if (!isCell(cell) || !in(what, 0, 5)) return Due.BAD;
        Cell c = cells.get(cell);
        if (what == 0) return c.ring;
        if (what == 1) return c.parents.size();
        if (what == 2) return c.parents.size() > 0 ? c.parents.get(0).number : Due.NONE;
        if (what == 3) return c.parents.size() > 1 ? c.parents.get(1).number : Due.NONE;
        if (what == 4) return c.place;
        return beside(c).size();
    }

    private static Set<Cell> beside(Cell c) {
        Set<Cell> there = new HashSet<>(Arrays.asList(c.sides));
        there.remove(null);
        return there;
    }

    int side(int cell, int side) {
        return isCell(cell) && in(side, 0, p - 1) ? numberOf(cells.get(cell).sides[side]) : Due.BAD;
    }

    int by(int cell, int other) {
        if (!isCell(cell) || !isCell(other)) return Due.BAD;
        int side = Arrays.asList(cells.get(cell).sides).indexOf(cells.get(other));
        return side < 0 ? Due.NONE : side;
    }

    private static List<BigInteger> growth(int p, int n) {
        BigInteger lone = BigInteger.ZERO;
        BigInteger paired = BigInteger.ZERO;
        BigInteger all = BigInteger.ONE;
        BigInteger together = all;
        for (int ring = 1; ring <= n; ring++) {
            if (ring == 1) {
                lone = BigInteger.valueOf(p);
            } else {
                BigInteger own = lone.multiply(BigInteger.valueOf(p - 5));
                own = own.add(paired.multiply(BigInteger.valueOf(p - 6)));
                paired = lone.add(paired);
                lone = own;
            }
            all = lone.add(paired);
            together = together.add(all);
        }
        return List.of(all, paired, lone, together);
    }

    int grown(int sides, int n, int what) {
        if (!in(sides, 6, 10) || !in(n, 0, 60) || !in(what, 0, 3)) return Due.BAD;
        return growth(sides, n).get(what).mod(MODULUS).intValue();
    }

    // ---- ways

    private List<Set<Cell>> shells(Cell from) {
        List<Set<Cell>> shells = new ArrayList<>();
        Set<Cell> seen = new HashSet<>(Set.of(from));
        Set<Cell> shell = Set.of(from);
        while (!shell.isEmpty()) {
            shells.add(shell);
            Set<Cell> next = new HashSet<>();
            for (Cell c : shell) next.addAll(beside(c));
            next.removeAll(seen);
            seen.addAll(next);
            shell = next;
        }
        return shells;
    }

    private static int shellOf(List<Set<Cell>> shells, Cell c) {
        for (int i = 0; i < shells.size(); i++) if (shells.get(i).contains(c)) return i;
        throw new IllegalStateException("a cell that cannot be reached");
    }

    private static BigInteger ways(List<Set<Cell>> shells, Cell c, int far) {
        if (far == 0) return BigInteger.ONE;
        BigInteger sum = BigInteger.ZERO;
        for (Cell d : beside(c)) if (shells.get(far - 1).contains(d)) sum = sum.add(ways(shells, d, far - 1));
        return sum;
    }

    int far(int a, int b, int what) {
        if (!isCell(a) || !isCell(b) || !in(what, 0, 1)) return Due.BAD;
        List<Set<Cell>> shells = shells(cells.get(b));
        int far = shellOf(shells, cells.get(a));
        return what == 0 ? far : ways(shells, cells.get(a), far).mod(MODULUS).intValue();
    }

    int way(int a, int b, int i) {
        if (!isCell(a) || !isCell(b) || i < 0) return Due.BAD;
        List<Set<Cell>> shells = shells(cells.get(b));
        Cell c = cells.get(a);
        int far = shellOf(shells, c);
        if (i > far) return Due.NONE;
        for (int k = 0; k < i; k++) {
            for (Cell d : c.sides) {
                if (d != null && shells.get(far - k - 1).contains(d)) {
                    c = d;
                    break;
                }
            }
        }
        return c.number;
    }

    int walks(int a, int b, int n) {
        if (!isCell(a) || !isCell(b) || !in(n, 0, 30)) return Due.BAD;
        long[] row = new long[cells.size()];
        row[b] = 1;
        for (int k = 0; k < n; k++) {
            long[] next = new long[row.length];
            for (Cell c : cells) for (Cell d : beside(c)) next[d.number] = (next[d.number] + row[c.number]) % 1000000007;
            row = next;
        }
        return (int) row[a];
    }

    int around(int cell, int n) {
        if (!isCell(cell) || !in(n, 0, 20)) return Due.BAD;
        List<Set<Cell>> shells = shells(cells.get(cell));
        return n < shells.size() ? shells.get(n).size() : 0;
    }

    // ---- the mouse

    int put(int cell, int side) {
        if (!isCell(cell) || !in(side, 0, p - 1)) return Due.BAD;
        set0();
        at = cells.get(cell);
        facing = side;
        return 1;
    }

    int mouse(int what) {
        return in(what, 0, 3) ? new int[] {at.number, facing, bumps, stepped}[what] : Due.BAD;
    }

    int feed(long w, int n) {
        if (!in(n, 1, 8)) return Due.BAD;
        if (tape.length() + n > 300) return Due.FULL;
        for (int i = n - 1; i >= 0; i--) tape += (char) (w >>> 8 * i & 255);
        return tape.length();
    }

    /** Reads a text by descent; found faults end it by leaving where and which. */
    private static final class Reader {
        final String text;
        int next = 0;
        int place = -1;
        int number = 0;

        Reader(String text) {
            this.text = text;
        }

        private int skip() {
            while (next < text.length() && (text.charAt(next) == ' ' || text.charAt(next) == '\n')) next++;
            return next;
        }

        private boolean fail(int at, int which) {
            if (place < 0) {
                place = at;
                number = which;
            }
            return false;
        }

        /** The acts of a text as a row of letters; null with a fault. Rows are cut at 2001 letters. */
        String acts(int depth) {
            StringBuilder acts = new StringBuilder();
            while (true) {
                int start = skip();
                if (start == text.length()) {
                    return depth == 0 || fail(start, 1) ? acts.toString() : null;
                }
                char c = text.charAt(start);
                if (c == ')' && depth > 0) return acts.toString();
                int often = 1;
                if (Character.isDigit(c) && c < 128) {
                    int end = start;
                    while (end < text.length() && text.charAt(end) >= '0' && text.charAt(end) <= '9') end++;
                    if (end - start > 2) return fail(start, 1) ? "" : null;
                    often = Integer.parseInt(text.substring(start, end));
                    if (often < 1 || often > 20) return fail(start, 2) ? "" : null;
                    next = end;
                    start = skip();
                    if (start == text.length()) return fail(start, 1) ? "" : null;
                    c = text.charAt(start);
                }
                String part;
                if (c == '(') {
                    if (depth == 4) return fail(start, 3) ? "" : null;
                    next = start + 1;
                    part = acts(depth + 1);
                    if (part == null) return null;
                    next++;
                } else if ("flrb".indexOf(c) >= 0) {
                    part = "" + c;
                    next = start + 1;
                } else {
                    return fail(start, 1) ? "" : null;
                }
                acts.append(part.repeat(often));
                if (acts.length() > 2001) acts.setLength(2001);
            }
        }
    }

    int run() {
        Reader reader = new Reader(tape);
        tape = "";
        String acts = reader.acts(0);
        if (acts == null) {
            fault = reader.number;
            return -1000100 - reader.place;
        }
        if (acts.length() > 2000) return Due.SPENT;
        for (char c : acts.toCharArray()) act(c);
        return acts.length();
    }

    private void act(char c) {
        if (c == 'l') facing = Math.floorMod(facing - 1, p);
        if (c == 'r') facing = Math.floorMod(facing + 1, p);
        if (c == 'b') facing = Math.floorMod(facing + p / 2, p);
        if (c != 'f') return;
        Cell to = at.sides[facing];
        if (to == null) {
            bumps++;
            return;
        }
        facing = (Arrays.asList(to.sides).indexOf(at) + p / 2) % p;
        at = to;
        stepped++;
    }

    int fault() {
        return fault;
    }

    // ---- colours

    int paint(int cell, int v) {
        if (!isCell(cell) || !in(v, 0, 3) && v != Due.NONE) return Due.BAD;
        int before = cells.get(cell).colour;
        cells.get(cell).colour = v;
        return before;
    }

    int paints(int cell, int sheet, int i, int n) {
        if (!isCell(cell) || n < 1 || (long) cell + n > cells.size() || !in(sheet, 0, 7)) return Due.BAD;
        if (items[sheet] == null) return find(1);
        if (i < 0 || (long) i + n > items[sheet].length) return find(2);
        for (int k = 0; k < n; k++) if (!in(items[sheet][i + k], 0, 3)) return Due.BAD;
        for (int k = 0; k < n; k++) cells.get(cell + k).colour = items[sheet][i + k];
        return fine(n);
    }

    int clashes() {
        int twice = 0;
        for (Cell c : cells) {
            for (Cell d : beside(c)) if (c.colour != Due.NONE && c.colour == d.colour) twice++;
        }
        return twice / 2;
    }

    private int[] first;

    private int rows(int m, int k) {
        first = null;
        return rows(new int[m], 0, k);
    }

    private int rows(int[] row, int next, int k) {
        if (next == row.length) {
            if (first == null) first = row.clone();
            return 1;
        }
        int sum = 0;
        for (int v = 0; v < k; v++) {
            boolean free = true;
            for (Cell d : cells.get(next).sides) if (d != null && d.number < next && row[d.number] == v) free = false;
            row[next] = v;
            if (free) sum += rows(row, next + 1, k);
        }
        return sum;
    }

    int coloured(int m, int k) {
        return in(m, 1, Math.min(16, cells.size())) && in(k, 1, 4) ? rows(m, k) : Due.BAD;
    }

    int found(int m, int k, int i) {
        if (!in(m, 1, Math.min(16, cells.size())) || !in(k, 1, 4) || !in(i, 0, m - 1)) return Due.BAD;
        rows(m, k);
        return first == null ? Due.NONE : first[i];
    }

    // ---- life

    int live(int cell, int v) {
        if (!isCell(cell) || !in(v, 0, 1)) return Due.BAD;
        int before = cells.get(cell).lives ? 1 : 0;
        cells.get(cell).lives = v == 1;
        return before;
    }

    int steps(int born, int stay, int n) {
        if (!in(born, 0, 2047) || !in(stay, 0, 2047) || !in(n, 1, 50)) return Due.BAD;
        for (int k = 0; k < n; k++) {
            Set<Cell> then = new HashSet<>();
            for (Cell c : cells) {
                long number = beside(c).stream().filter(d -> d.lives).count();
                if (((c.lives ? stay : born) >> number) % 2 == 1) then.add(c);
            }
            for (Cell c : cells) c.lives = then.contains(c);
        }
        return living(Due.NONE);
    }

    int living(int ring) {
        if (ring != Due.NONE && !in(ring, 0, rings.size() - 1)) return Due.BAD;
        return (int) (ring == Due.NONE ? cells : rings.get(ring)).stream().filter(c -> c.lives).count();
    }

    private Cell turn(Cell c, int t) {
        List<Cell> ring = rings.get(c.ring);
        return c.ring == 0 ? c : ring.get((c.place + t * ring.size() / p) % ring.size());
    }

    int turned(int cell, int t) {
        return isCell(cell) && in(t, 0, p - 1) ? turn(cells.get(cell), t).number : Due.BAD;
    }

    int alike(int t) {
        if (!in(t, 0, p - 1)) return Due.BAD;
        return cells.stream().allMatch(c -> c.lives == turn(c, t).lives) ? 1 : 0;
    }

    int orbits(int m) {
        if (!in(m, 0, rings.size() - 1)) return Due.BAD;
        Set<Set<Cell>> sets = new HashSet<>();
        for (Cell c : cells) {
            if (c.ring > m) continue;
            Set<Cell> set = new HashSet<>();
            for (int t = 0; t < p; t++) set.add(turn(c, t));
            sets.add(set);
        }
        return sets.size();
    }

    // ---- asked

    private static int told(Cell c) {
        return c instanceof Rim ? 3 : c instanceof Paired ? 2 : c instanceof Lone ? 1 : 0;
    }

    int kind(int cell) {
        return isCell(cell) ? told(cells.get(cell)) : Due.BAD;
    }

    int as(int cell, int kind) {
        if (!isCell(cell) || !in(kind, 0, 3)) return Due.BAD;
        List<Class<? extends Cell>> kinds = List.of(Cell.class, Lone.class, Paired.class, Rim.class);
        return kinds.get(kind).isInstance(cells.get(cell)) ? fine(cells.get(cell).ring) : find(3);
    }

    int ask(int cell, int what) {
        if (!isCell(cell) || !in(what, 0, 1)) return Due.BAD;
        trace.clear();
        return what == 0 ? cells.get(cell).size() : cells.get(cell).mark();
    }

    int trace(int i) {
        return in(i, 0, Math.min(16, trace.size()) - 1) ? trace.get(i) : Due.NONE;
    }

    int count(int what) {
        if (!in(what, 0, 8)) return Due.BAD;
        if (what == 0) return (int) Arrays.stream(items).filter(row -> row != null).count();
        if (what == 1) return cells.size();
        if (what == 2) return rings.size() - 1;
        if (what == 3) return p;
        if (what < 7) return (int) cells.stream().filter(c -> told(c) == what - 3).count();
        return what == 7 ? living(Due.NONE) : tape.length();
    }

    int status() {
        return status;
    }
}
