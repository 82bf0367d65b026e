import java.util.Arrays;

/**
 * Boards of the far plane: like cells with six to ten sides, three at each corner, built ring by ring about a
 * first cell. The document ../shared/DOC.md says what each call answers.
 *
 * <p>All rows are made with the object and used again by every call: no call makes an object or an array.
 */
public final class FarBoards {
    public static final int NONE = -1000000, BAD = -1000001, STATE = -1000002, FULL = -1000003;

    private static final int FINDINGS = -1000010;
    private static final int NULL_FOUND = 1, PLACE_FOUND = 2, KIND_FOUND = 3, SIZE_FOUND = 4, STORE_FOUND = 5;

    private static final int FAULTS = -1000100, SPENT = -1000900;

    private static final int LEAST_SIDES = 6, MOST_SIDES = 10, MOST_RINGS = 5, MOST_CELLS = 400;
    private static final int MOST_GROWN = 60, MOST_WALK = 30, MOST_AROUND = 20;
    private static final int MOST_COLOURS = 4, MOST_COUNTED = 16;
    private static final int MOST_RULE = 2047, MOST_STEPS = 50;

    private static final int CELL_KIND = 0, LONE_KIND = 1, PAIRED_KIND = 2, RIM_KIND = 3;

    private static final long MODULUS = 1000000007L;

    private final Sheets sheets = new Sheets();
    private final Ground ground = new Ground();
    private final Ways ways = new Ways(ground);
    private final Mouse mouse = new Mouse(ground);
    private final Tape tape = new Tape();
    private final Colours colours = new Colours(ground);
    private final Life life = new Life(ground);
    private final Asks asks = new Asks(ground);
    private int latestFinding = 0;
    private int latestFault = 0;

    public FarBoards() {
        begin(7, 2);
    }

    // ---- sheets

    public int sheet(int sheet, int lane, int n) {
        if (!sheets.has(sheet) || lane < Sheets.BYTES || lane > Sheets.INTS || n > Sheets.MOST_ITEMS) {
            return BAD;
        }
        if (n < 0) {
            return finding(SIZE_FOUND);
        }
        sheets.lay(sheet, lane, n);
        return sound(n);
    }

    public int set(int sheet, int i, int v) {
        if (!sheets.has(sheet)) {
            return BAD;
        }
        if (sheets.isMissing(sheet)) {
            return finding(NULL_FOUND);
        }
        if (!sheets.holds(sheet, i, 1)) {
            return finding(PLACE_FOUND);
        }
        return sound(sheets.write(sheet, i, v));
    }

    public int copy(int a, int i, int b, int j, int n) {
        if (!sheets.has(a) || !sheets.has(b)) {
            return BAD;
        }
        if (sheets.isMissing(a) || sheets.isMissing(b)) {
            return finding(NULL_FOUND);
        }
        if (!sheets.areOfOneLane(a, b)) {
            return finding(STORE_FOUND);
        }
        if (!sheets.holds(a, i, n) || !sheets.holds(b, j, n)) {
            return finding(PLACE_FOUND);
        }
        sheets.bring(a, i, b, j, n);
        return sound(n);
    }

    public int drop(int sheet) {
        if (!sheets.has(sheet)) {
            return BAD;
        }
        if (sheets.isMissing(sheet)) {
            return finding(NULL_FOUND);
        }
        return sound(sheets.takeAway(sheet));
    }

    // ---- the board

    public int board(int p, int r) {
        if (!isSideNumber(p) || r < 0 || r > MOST_RINGS) {
            return BAD;
        }
        if (growth(p, r, 3) > MOST_CELLS) {
            return FULL;
        }
        begin(p, r);
        return ground.cells;
    }

    public int cell(int cell, int what) {
        if (!ground.has(cell)) {
            return BAD;
        }
        switch (what) {
            case 0: return ground.ringOf[cell];
            case 1: return ground.parentsOf(cell);
            case 2: return ground.firstParent[cell];
            case 3: return ground.otherParent[cell];
            case 4: return ground.placeOf(cell);
            case 5: return ground.besides(cell);
            default: return BAD;
        }
    }

    public int side(int cell, int side) {
        return ground.hasSide(cell, side) ? ground.beyond(cell, side) : BAD;
    }

    public int by(int cell, int other) {
        return ground.has(cell) && ground.has(other) ? ground.sideTo(cell, other) : BAD;
    }

    public int grown(int p, int n, int what) {
        if (!isSideNumber(p) || n < 0 || n > MOST_GROWN || what < 0 || what > 3) {
            return BAD;
        }
        return growth(p, n, what);
    }

    // ---- ways

    public int far(int a, int b, int what) {
        if (!ground.has(a) || !ground.has(b) || what < 0 || what > 1) {
            return BAD;
        }
        ways.measure(a);
        return what == 0 ? ways.distance[b] : ways.shortest[b];
    }

    public int way(int a, int b, int i) {
        if (!ground.has(a) || !ground.has(b) || i < 0) {
            return BAD;
        }
        return ways.cellOnTheWay(a, b, i);
    }

    public int walks(int a, int b, int n) {
        if (!ground.has(a) || !ground.has(b) || n < 0 || n > MOST_WALK) {
            return BAD;
        }
        return ways.countWalks(a, b, n);
    }

    public int around(int cell, int n) {
        if (!ground.has(cell) || n < 0 || n > MOST_AROUND) {
            return BAD;
        }
        return ways.countAt(cell, n);
    }

    // ---- the mouse

    public int put(int cell, int side) {
        if (!ground.hasSide(cell, side)) {
            return BAD;
        }
        mouse.place(cell, side);
        return 1;
    }

    public int mouse(int what) {
        switch (what) {
            case 0: return mouse.at;
            case 1: return mouse.facing;
            case 2: return mouse.bumps;
            case 3: return mouse.stepped;
            default: return BAD;
        }
    }

    public int feed(long w, int n) {
        if (n < 1 || n > 8) {
            return BAD;
        }
        return tape.take(w, n) ? tape.length : FULL;
    }

    public int run() {
        int number = tape.check();
        if (number != 0) {
            latestFault = number;
            tape.length = 0;
            return FAULTS - tape.faultPlace;
        }
        int acts = tape.unroll();
        tape.length = 0;
        if (acts > Tape.MOST_ACTS) {
            return SPENT;
        }
        for (int i = 0; i < acts; i++) {
            mouse.act(tape.acts[i]);
        }
        return acts;
    }

    public int fault() {
        return latestFault;
    }

    // ---- colours

    public int paint(int cell, int v) {
        if (!ground.has(cell) || !(Colours.isColour(v) || v == NONE)) {
            return BAD;
        }
        int before = colours.colourOf[cell];
        colours.colourOf[cell] = v;
        return before;
    }

    public int paints(int cell, int sheet, int i, int n) {
        if (!ground.has(cell) || n < 1 || n > ground.cells - cell || !sheets.has(sheet)) {
            return BAD;
        }
        if (sheets.isMissing(sheet)) {
            return finding(NULL_FOUND);
        }
        if (!sheets.holds(sheet, i, n)) {
            return finding(PLACE_FOUND);
        }
        for (int k = 0; k < n; k++) {
            if (!Colours.isColour(sheets.read(sheet, i + k))) {
                return BAD;
            }
        }
        for (int k = 0; k < n; k++) {
            colours.colourOf[cell + k] = sheets.read(sheet, i + k);
        }
        return sound(n);
    }

    public int clashes() {
        return colours.countClashes();
    }

    public int coloured(int m, int k) {
        return isCountable(m, k) ? colours.countRows(m, k) : BAD;
    }

    public int found(int m, int k, int i) {
        if (!isCountable(m, k) || i < 0 || i >= m) {
            return BAD;
        }
        return colours.colourInFirstRow(m, k, i);
    }

    // ---- life

    public int live(int cell, int v) {
        if (!ground.has(cell) || v < 0 || v > 1) {
            return BAD;
        }
        int before = life.lives[cell];
        life.lives[cell] = v;
        return before;
    }

    public int steps(int born, int stay, int n) {
        if (!isRule(born) || !isRule(stay) || n < 1 || n > MOST_STEPS) {
            return BAD;
        }
        for (int i = 0; i < n; i++) {
            life.stepOn(born, stay);
        }
        return life.countIn(0, ground.cells);
    }

    public int living(int ring) {
        if (ring == NONE) {
            return life.countIn(0, ground.cells);
        }
        if (!ground.hasRing(ring)) {
            return BAD;
        }
        return life.countIn(ground.ringStart[ring], ground.ringStart[ring + 1]);
    }

    public int turned(int cell, int t) {
        if (!ground.has(cell) || !isTurn(t)) {
            return BAD;
        }
        return ground.turn(cell, t);
    }

    public int alike(int t) {
        if (!isTurn(t)) {
            return BAD;
        }
        return life.isSameTurned(t) ? 1 : 0;
    }

    public int orbits(int m) {
        if (!ground.hasRing(m)) {
            return BAD;
        }
        int sets = 1;
        for (int ring = 1; ring <= m; ring++) {
            sets += ground.partOf(ring);
        }
        return sets;
    }

    // ---- asked

    public int kind(int cell) {
        return ground.has(cell) ? ground.toldKind(cell) : BAD;
    }

    public int as(int cell, int kind) {
        if (!ground.has(cell) || kind < CELL_KIND || kind > RIM_KIND) {
            return BAD;
        }
        if (kind != CELL_KIND && kind != ground.toldKind(cell)) {
            return finding(KIND_FOUND);
        }
        return sound(ground.ringOf[cell]);
    }

    public int ask(int cell, int what) {
        if (!ground.has(cell) || what < Asks.SIZE || what > Asks.MARK) {
            return BAD;
        }
        return asks.answerAnew(cell, what);
    }

    public int trace(int i) {
        return i >= 0 && i < asks.traced ? asks.bodies[i] : NONE;
    }

    public int count(int what) {
        switch (what) {
            case 0: return sheets.countLaid();
            case 1: return ground.cells;
            case 2: return ground.rings;
            case 3: return ground.sides;
            case 4: return ground.countTold(LONE_KIND);
            case 5: return ground.countTold(PAIRED_KIND);
            case 6: return ground.countTold(RIM_KIND);
            case 7: return life.countIn(0, ground.cells);
            case 8: return tape.length;
            default: return BAD;
        }
    }

    public int status() {
        return latestFinding;
    }

    // ---- behind the face

    private void begin(int p, int r) {
        ground.build(p, r);
        mouse.place(0, 0);
        colours.clear();
        life.clear();
    }

    private int finding(int number) {
        latestFinding = number;
        return FINDINGS - number;
    }

    private int sound(int answer) {
        latestFinding = 0;
        return answer;
    }

    private boolean isTurn(int t) {
        return t >= 0 && t < ground.sides;
    }

    private boolean isCountable(int m, int k) {
        return m >= 1 && m <= MOST_COUNTED && m <= ground.cells && k >= 1 && k <= MOST_COLOURS;
    }

    private static boolean isRule(int bits) {
        return bits >= 0 && bits <= MOST_RULE;
    }

    private static boolean isSideNumber(int p) {
        return p >= LEAST_SIDES && p <= MOST_SIDES;
    }

    /** RING n by the rule alone: what 0 all, 1 PAIRED, 2 LONE, 3 all of RINGS 0 to n. */
    private static int growth(int p, int n, int what) {
        long lone = 0;
        long paired = 0;
        long all = 1;
        long together = 1;
        for (int ring = 1; ring <= n; ring++) {
            long own = ring == 1 ? p : ((p - 5) * lone + (p - 6) * paired) % MODULUS;
            paired = ring == 1 ? 0 : all;
            lone = own;
            all = (lone + paired) % MODULUS;
            together = (together + all) % MODULUS;
        }
        switch (what) {
            case 0: return (int) all;
            case 1: return (int) paired;
            case 2: return (int) lone;
            default: return (int) together;
        }
    }

    /** Eight SHEETS side by side in one row, so that laying one anew makes nothing. */
    private static final class Sheets {
        static final int SHEETS = 8, MOST_ITEMS = 60;
        static final int MISSING = -1, BYTES = 0, SHORTS = 1, INTS = 2;

        private final int[] items = new int[SHEETS * MOST_ITEMS];
        private final int[] lanes = new int[SHEETS];
        private final int[] sizes = new int[SHEETS];

        Sheets() {
            Arrays.fill(lanes, MISSING);
        }

        boolean has(int sheet) {
            return sheet >= 0 && sheet < SHEETS;
        }

        boolean isMissing(int sheet) {
            return lanes[sheet] == MISSING;
        }

        boolean areOfOneLane(int a, int b) {
            return lanes[a] == lanes[b];
        }

        /** Whether n ITEMS from i on are there; written so that no sum can wrap around. */
        boolean holds(int sheet, int i, int n) {
            return i >= 0 && n >= 0 && i <= sizes[sheet] && n <= sizes[sheet] - i;
        }

        void lay(int sheet, int lane, int n) {
            lanes[sheet] = lane;
            sizes[sheet] = n;
            for (int i = 0; i < n && i < MOST_ITEMS; i++) {
                items[sheet * MOST_ITEMS + i] = 0;
            }
        }

        int takeAway(int sheet) {
            lanes[sheet] = MISSING;
            return sizes[sheet];
        }

        int read(int sheet, int i) {
            return items[sheet * MOST_ITEMS + i];
        }

        int write(int sheet, int i, int v) {
            int kept = narrowed(lanes[sheet], v);
            items[sheet * MOST_ITEMS + i] = kept;
            return kept;
        }

        void bring(int a, int i, int b, int j, int n) {
            System.arraycopy(items, a * MOST_ITEMS + i, items, b * MOST_ITEMS + j, n);
        }

        int countLaid() {
            int laid = 0;
            for (int sheet = 0; sheet < SHEETS; sheet++) {
                laid += isMissing(sheet) ? 0 : 1;
            }
            return laid;
        }

        private static int narrowed(int lane, int v) {
            switch (lane) {
                case BYTES: return (byte) v;
                case SHORTS: return (short) v;
                default: return v;
            }
        }
    }

    /** THE BOARD: its CELLS, their PARENTS, and what is at each of their sides. */
    private static final class Ground {
        /** In a plane there are fewer than three pairs side by side for each CELL, and each pair is listed twice. */
        static final int MOST_BESIDE = 6 * MOST_CELLS;

        final int[] ringOf = new int[MOST_CELLS];
        final int[] firstParent = new int[MOST_CELLS];
        final int[] otherParent = new int[MOST_CELLS];
        /** The first CELL of each RING; one entry more, so that a RING ends where the next one would begin. */
        final int[] ringStart = new int[MOST_RINGS + 2];
        /** The number that was next as the OWN ones of a CELL began: its SHARED ones lie about these. */
        private final int[] firstOwn = new int[MOST_CELLS];
        /** What is at the sides of CELL 0, in their order, then of CELL 1, and so on, EDGES left out. */
        final int[] beside = new int[MOST_BESIDE];
        /** Where that row begins for each CELL; one entry more, so that it ends where the next one's begins. */
        final int[] besideStart = new int[MOST_CELLS + 1];
        private int listed = 0;
        int sides = 0;
        int rings = 0;
        int cells = 0;

        void build(int p, int r) {
            sides = p;
            rings = r;
            cells = 0;
            ringStart[0] = 0;
            addCell(0, NONE, NONE);
            ringStart[1] = cells;
            for (int ring = 1; ring <= r && ring <= MOST_RINGS; ring++) {
                if (ring == 1) {
                    addFirstRing();
                } else {
                    addRing(ring);
                }
                ringStart[ring + 1] = cells;
            }
            listed = 0;
            for (int cell = 0; cell < cells; cell++) {
                besideStart[cell] = listed;
                listRound(cell);
            }
            besideStart[cells] = listed;
        }

        boolean has(int cell) {
            return cell >= 0 && cell < cells;
        }

        boolean hasSide(int cell, int side) {
            return has(cell) && side >= 0 && side < sides;
        }

        boolean hasRing(int ring) {
            return ring >= 0 && ring <= rings;
        }

        /** The CELL at a side; NONE at an EDGE. EDGES lie ahead of the last side, where CHILDREN would be. */
        int beyond(int cell, int side) {
            int first = besideStart[cell];
            int last = besideStart[cell + 1] - 1;
            if (side < last - first) {
                return beside[first + side];
            }
            return side == sides - 1 && first <= last ? beside[last] : NONE;
        }

        int sideTo(int cell, int other) {
            int first = besideStart[cell];
            int last = besideStart[cell + 1] - 1;
            for (int i = first; i <= last; i++) {
                if (beside[i] == other) {
                    return i < last ? i - first : sides - 1;
                }
            }
            return NONE;
        }

        /** A side so far further on, round; by is less than the number of sides. */
        int sideOn(int side, int by) {
            int on = side + by;
            return on >= sides ? on - sides : on;
        }

        int parentsOf(int cell) {
            if (otherParent[cell] != NONE) {
                return 2;
            }
            return firstParent[cell] != NONE ? 1 : 0;
        }

        int placeOf(int cell) {
            return cell - ringStart[ringOf[cell]];
        }

        int besides(int cell) {
            return besideStart[cell + 1] - besideStart[cell];
        }

        int childrenOf(int cell) {
            int children = 0;
            for (int i = besideStart[cell]; i < besideStart[cell + 1]; i++) {
                children += ringOf[beside[i]] > ringOf[cell] ? 1 : 0;
            }
            return children;
        }

        int toldKind(int cell) {
            if (rings > 0 && ringOf[cell] == rings) {
                return RIM_KIND;
            }
            switch (parentsOf(cell)) {
                case 2: return PAIRED_KIND;
                case 1: return LONE_KIND;
                default: return CELL_KIND;
            }
        }

        int countTold(int kind) {
            int told = 0;
            for (int cell = 0; cell < cells; cell++) {
                told += toldKind(cell) == kind ? 1 : 0;
            }
            return told;
        }

        /** How many CELLS a p-th part of a RING is, RING 0 not meant. */
        int partOf(int ring) {
            return sides < 1 ? 0 : sizeOf(ring) / sides;
        }

        int turn(int cell, int t) {
            int ring = ringOf[cell];
            if (ring == 0) {
                return cell;
            }
            int place = placeOf(cell) + t * partOf(ring);
            int size = sizeOf(ring);
            return ringStart[ring] + (place >= size ? place - size : place);
        }

        private int sizeOf(int ring) {
            return ringStart[ring + 1] - ringStart[ring];
        }

        private int behind(int cell) {
            int ring = ringOf[cell];
            return cell + 1 < ringStart[ring + 1] ? cell + 1 : ringStart[ring];
        }

        private int ahead(int cell) {
            int ring = ringOf[cell];
            return cell > ringStart[ring] ? cell - 1 : ringStart[ring + 1] - 1;
        }

        private int ownOf(int cell) {
            return sides - 4 - parentsOf(cell);
        }

        private void addCell(int ring, int parent, int other) {
            if (cells < MOST_CELLS) {
                ringOf[cells] = ring;
                firstParent[cells] = parent;
                otherParent[cells] = other;
                cells++;
            }
        }

        private void addFirstRing() {
            for (int i = 0; i < sides; i++) {
                addCell(1, 0, NONE);
            }
        }

        private void addRing(int ring) {
            for (int c = ringStart[ring - 1]; c < ringStart[ring]; c++) {
                firstOwn[c] = cells;
                int own = ownOf(c);
                for (int i = 0; i < own; i++) {
                    addCell(ring, c, NONE);
                }
                addCell(ring, c, behind(c));
            }
        }

        private void list(int other) {
            if (listed < MOST_BESIDE) {
                beside[listed] = other;
                listed++;
            }
        }

        private void listRound(int cell) {
            if (cell == 0) {
                listRoundTheFirst();
                return;
            }
            list(firstParent[cell]);
            if (parentsOf(cell) == 2) {
                list(otherParent[cell]);
            }
            list(behind(cell));
            if (ringOf[cell] < rings) {
                listChildren(cell);
            }
            list(ahead(cell));
        }

        private void listRoundTheFirst() {
            for (int side = 0; side < sides && rings > 0; side++) {
                list(side == 0 ? 1 : sides + 1 - side);
            }
        }

        /** The CHILDREN stand next to one another round their RING, so going ahead from the last one meets all. */
        private void listChildren(int cell) {
            int own = ownOf(cell);
            int child = firstOwn[cell] + own;
            for (int i = 0; i < own + 2; i++) {
                list(child);
                child = ahead(child);
            }
        }
    }

    /** FAR, WAYS, THE WAY and WALKS. */
    private static final class Ways {
        final int[] distance = new int[MOST_CELLS];
        final int[] shortest = new int[MOST_CELLS];
        private final int[] queue = new int[MOST_CELLS];
        private final Ground ground;
        private int[] walked = new int[MOST_CELLS];
        private int[] walkedOn = new int[MOST_CELLS];

        Ways(Ground ground) {
            this.ground = ground;
        }

        /** Leaves how FAR each CELL is from one, and how many WAYS there are. */
        void measure(int from) {
            Arrays.fill(distance, NONE);
            Arrays.fill(shortest, 0);
            distance[from] = 0;
            shortest[from] = 1;
            queue[0] = from;
            int reached = 1;
            for (int next = 0; next < reached && next < ground.cells; next++) {
                reached = reachFrom(queue[next], reached);
            }
        }

        int cellOnTheWay(int a, int b, int i) {
            measure(b);
            if (i > distance[a]) {
                return NONE;
            }
            int cell = a;
            for (int step = 0; step < i && step < MOST_CELLS; step++) {
                cell = nearer(cell);
            }
            return cell;
        }

        int countWalks(int a, int b, int n) {
            Arrays.fill(walked, 0);
            walked[a] = 1;
            for (int step = 0; step < n; step++) {
                for (int cell = 0; cell < ground.cells; cell++) {
                    walkedOn[cell] = walksInto(cell);
                }
                int[] spare = walked;
                walked = walkedOn;
                walkedOn = spare;
            }
            return walked[b];
        }

        int countAt(int cell, int n) {
            measure(cell);
            int there = 0;
            for (int other = 0; other < ground.cells; other++) {
                there += distance[other] == n ? 1 : 0;
            }
            return there;
        }

        private int reachFrom(int cell, int reached) {
            int count = reached;
            for (int i = ground.besideStart[cell]; i < ground.besideStart[cell + 1]; i++) {
                int other = ground.beside[i];
                if (distance[other] == NONE && count < MOST_CELLS) {
                    distance[other] = distance[cell] + 1;
                    queue[count] = other;
                    count++;
                }
                if (distance[other] == distance[cell] + 1) {
                    shortest[other] = (int) (((long) shortest[other] + shortest[cell]) % MODULUS);
                }
            }
            return count;
        }

        /** Over the side of the least number, one step nearer to where measure() began. */
        private int nearer(int cell) {
            for (int i = ground.besideStart[cell]; i < ground.besideStart[cell + 1]; i++) {
                int other = ground.beside[i];
                if (distance[other] == distance[cell] - 1) {
                    return other;
                }
            }
            return cell;
        }

        private int walksInto(int cell) {
            long sum = 0;
            int end = ground.besideStart[cell + 1];
            for (int i = ground.besideStart[cell]; i < end; i++) {
                sum += walked[ground.beside[i]];
            }
            return (int) (sum % MODULUS);
        }
    }

    /** THE MOUSE. */
    private static final class Mouse {
        private final Ground ground;
        int at = 0;
        int facing = 0;
        int bumps = 0;
        int stepped = 0;

        Mouse(Ground ground) {
            this.ground = ground;
        }

        void place(int cell, int side) {
            at = cell;
            facing = side;
            bumps = 0;
            stepped = 0;
        }

        void act(int letter) {
            switch (letter) {
                case 'f': forward(); break;
                case 'l': facing = ground.sideOn(facing, ground.sides - 1); break;
                case 'r': facing = ground.sideOn(facing, 1); break;
                default: facing = ground.sideOn(facing, ground.sides / 2); break;
            }
        }

        private void forward() {
            int next = ground.beyond(at, facing);
            if (next == NONE) {
                bumps++;
                return;
            }
            facing = ground.sideOn(ground.sideTo(next, at), ground.sides / 2);
            at = next;
            stepped++;
        }
    }

    /** THE TAPE: its bytes, the first FAULT in them, and the acts that they tell. */
    private static final class Tape {
        static final int MOST_BYTES = 300, MOST_ACTS = 2000, MOST_DEEP = 4, MOST_OFTEN = 20, MOST_FIGURES = 2;

        final byte[] acts = new byte[MOST_ACTS];
        private final byte[] bytes = new byte[MOST_BYTES];
        private final int[] openedAt = new int[MOST_DEEP];
        private final int[] openedOften = new int[MOST_DEEP];
        int length = 0;
        int faultPlace = 0;

        boolean take(long w, int n) {
            if (n > MOST_BYTES - length) {
                return false;
            }
            for (int i = n - 1; i >= 0; i--) {
                bytes[length] = (byte) (w >> (8 * i));
                length++;
            }
            return true;
        }

        /** The number of the first FAULT, its place left in faultPlace; 0 if there is none. */
        int check() {
            int depth = 0;
            boolean counted = false;
            for (int at = 0; at < length; at += Math.max(1, figuresFrom(at))) {
                if (isBlank(bytes[at])) {
                    continue;
                }
                int number = faultAt(at, depth, counted);
                if (number != 0) {
                    faultPlace = at;
                    return number;
                }
                depth += depthOf(bytes[at]);
                counted = isFigure(bytes[at]);
            }
            faultPlace = length;
            return depth > 0 || counted ? 1 : 0;
        }

        /** Of a tape without FAULTS: writes its acts one after another; more than MOST_ACTS are told as one more. */
        int unroll() {
            int count = 0;
            int depth = 0;
            int often = 1;
            for (int at = 0; at < length && count <= MOST_ACTS; at += Math.max(1, figuresFrom(at))) {
                byte sign = bytes[at];
                if (isBlank(sign)) {
                    continue;
                }
                if (isFigure(sign)) {
                    often = numberAt(at);
                    continue;
                }
                if (sign == '(') {
                    open(depth, count, often);
                    depth++;
                } else if (sign == ')') {
                    depth--;
                    count = close(depth, count);
                } else {
                    count = add(sign, count, often);
                }
                often = 1;
            }
            return count;
        }

        private void open(int depth, int count, int often) {
            if (depth >= 0 && depth < MOST_DEEP) {
                openedAt[depth] = count;
                openedOften[depth] = often;
            }
        }

        private int close(int depth, int count) {
            if (depth < 0 || depth >= MOST_DEEP) {
                return count;
            }
            return repeat(openedAt[depth], count, openedOften[depth]);
        }

        private int add(byte letter, int count, int often) {
            if (count >= MOST_ACTS) {
                return MOST_ACTS + 1;
            }
            acts[count] = letter;
            return repeat(count, count + 1, often);
        }

        /** Has the acts from one place up to another stand there as often as told: where they end then. */
        private int repeat(int from, int to, int often) {
            int span = to - from;
            int end = from + span * often;
            if (end > MOST_ACTS) {
                return MOST_ACTS + 1;
            }
            for (int i = to; i < end; i++) {
                acts[i] = acts[i - span];
            }
            return end;
        }

        private int faultAt(int at, int depth, boolean counted) {
            byte sign = bytes[at];
            if (isFigure(sign)) {
                return numberFault(at, counted);
            }
            if (sign == '(') {
                return depth < MOST_DEEP ? 0 : 3;
            }
            if (sign == ')') {
                return depth > 0 && !counted ? 0 : 1;
            }
            return isLetter(sign) ? 0 : 1;
        }

        private int numberFault(int at, boolean counted) {
            if (counted || figuresFrom(at) > MOST_FIGURES) {
                return 1;
            }
            int number = numberAt(at);
            return number >= 1 && number <= MOST_OFTEN ? 0 : 2;
        }

        /** How many figures stand from a place on without a gap. */
        private int figuresFrom(int at) {
            int end = at;
            while (end < length && isFigure(bytes[end])) {
                end++;
            }
            return end - at;
        }

        private int numberAt(int at) {
            int number = 0;
            for (int i = at; i < at + MOST_FIGURES && i < length && isFigure(bytes[i]); i++) {
                number = number * 10 + bytes[i] - '0';
            }
            return number;
        }

        private static int depthOf(byte sign) {
            if (sign == '(') {
                return 1;
            }
            return sign == ')' ? -1 : 0;
        }

        private static boolean isBlank(byte sign) {
            return sign == 32 || sign == 10;
        }

        private static boolean isFigure(byte sign) {
            return sign >= '0' && sign <= '9';
        }

        private static boolean isLetter(byte sign) {
            return sign == 'f' || sign == 'l' || sign == 'r' || sign == 'b';
        }
    }

    /** COLOURS of the CELLS, and rows of colours that differ side by side. */
    private static final class Colours {
        final int[] colourOf = new int[MOST_CELLS];
        /** For each of the first CELLS a bit for each earlier one at its sides. */
        private final int[] earlier = new int[MOST_COUNTED];
        /** For each colour a bit for each of the first CELLS that has it, as far as they have been tried. */
        private final int[] having = new int[MOST_COLOURS];
        private final Ground ground;

        Colours(Ground ground) {
            this.ground = ground;
        }

        static boolean isColour(int v) {
            return v >= 0 && v < MOST_COLOURS;
        }

        void clear() {
            Arrays.fill(colourOf, 0);
        }

        int countClashes() {
            int pairs = 0;
            for (int cell = 0; cell < ground.cells; cell++) {
                for (int i = ground.besideStart[cell]; i < ground.besideStart[cell + 1]; i++) {
                    int other = ground.beside[i];
                    pairs += other > cell && clash(cell, other) ? 1 : 0;
                }
            }
            return pairs;
        }

        int countRows(int m, int k) {
            prepare(m);
            return countFrom(earlier, having, 0, m, k, 0);
        }

        /** The colour of a CELL in the first row; NONE if there is no row. */
        int colourInFirstRow(int m, int k, int cell) {
            prepare(m);
            if (!fillFrom(earlier, having, 0, m, k)) {
                return NONE;
            }
            int colour = 0;
            while (colour < MOST_COLOURS - 1 && (having[colour] >> cell & 1) == 0) {
                colour++;
            }
            return colour;
        }

        private void prepare(int m) {
            Arrays.fill(having, 0);
            for (int cell = 0; cell < m && cell < MOST_COUNTED; cell++) {
                earlier[cell] = 0;
                for (int i = ground.besideStart[cell]; i < ground.besideStart[cell + 1]; i++) {
                    int other = ground.beside[i];
                    earlier[cell] |= other < cell ? 1 << other : 0;
                }
            }
        }

        private boolean clash(int cell, int other) {
            return colourOf[cell] != NONE && colourOf[cell] == colourOf[other];
        }

        /** Of the colours that no CELL has yet it tries the least one alone, and counts that for each of them. */
        private static int countFrom(int[] earlier, int[] having, int cell, int m, int k, int used) {
            if (cell >= m || cell >= MOST_COUNTED) {
                return 1;
            }
            int sum = 0;
            for (int v = 0; v <= used && v < k; v++) {
                if ((earlier[cell] & having[v]) == 0) {
                    boolean fresh = v == used;
                    having[v] += 1 << cell;
                    int rows = countFrom(earlier, having, cell + 1, m, k, fresh ? used + 1 : used);
                    having[v] -= 1 << cell;
                    sum += fresh ? (k - used) * rows : rows;
                }
            }
            return sum;
        }

        private static boolean fillFrom(int[] earlier, int[] having, int cell, int m, int k) {
            if (cell >= m || cell >= MOST_COUNTED) {
                return true;
            }
            for (int v = 0; v < k; v++) {
                if ((earlier[cell] & having[v]) == 0) {
                    having[v] += 1 << cell;
                    if (fillFrom(earlier, having, cell + 1, m, k)) {
                        return true;
                    }
                    having[v] -= 1 << cell;
                }
            }
            return false;
        }
    }

    /** LIFE of the CELLS. */
    private static final class Life {
        private final Ground ground;
        int[] lives = new int[MOST_CELLS];
        private int[] livesThen = new int[MOST_CELLS];

        Life(Ground ground) {
            this.ground = ground;
        }

        void clear() {
            Arrays.fill(lives, 0);
        }

        void stepOn(int born, int stay) {
            for (int cell = 0; cell < ground.cells; cell++) {
                int rule = lives[cell] == 1 ? stay : born;
                livesThen[cell] = rule >> livingBeside(cell) & 1;
            }
            int[] spare = lives;
            lives = livesThen;
            livesThen = spare;
        }

        int countIn(int from, int to) {
            int living = 0;
            for (int cell = from; cell < to && cell < MOST_CELLS; cell++) {
                living += lives[cell];
            }
            return living;
        }

        boolean isSameTurned(int t) {
            for (int cell = 0; cell < ground.cells; cell++) {
                if (lives[cell] != lives[ground.turn(cell, t)]) {
                    return false;
                }
            }
            return true;
        }

        private int livingBeside(int cell) {
            int living = 0;
            int end = ground.besideStart[cell + 1];
            for (int i = ground.besideStart[cell]; i < end; i++) {
                living += lives[ground.beside[i]];
            }
            return living;
        }
    }

    /** ASKS of CELLS, by BODIES that leave their numbers in THE TRACE. */
    private static final class Asks {
        static final int SIZE = 0, MARK = 1, MOST_TRACED = 16, MOST_DEEP = 8;

        final int[] bodies = new int[MOST_TRACED];
        int traced = 0;
        private final Ground ground;

        Asks(Ground ground) {
            this.ground = ground;
        }

        int answerAnew(int cell, int what) {
            traced = 0;
            return answer(cell, what, 0);
        }

        /** No KIND's BODIES ask one another in a circle; the guard on the depth only makes that plain. */
        private int answer(int cell, int what, int depth) {
            if (depth >= MOST_DEEP) {
                return 0;
            }
            return what == SIZE ? sizeAsked(cell, depth) : markAsked(cell, depth);
        }

        private int sizeAsked(int cell, int depth) {
            switch (ground.toldKind(cell)) {
                case LONE_KIND:
                    enter(11);
                    return lentSize(cell) + ground.childrenOf(cell);
                case PAIRED_KIND:
                    enter(12);
                    return lentSize(cell) + ground.firstParent[cell] + ground.otherParent[cell];
                case RIM_KIND:
                    enter(13);
                    return lentSize(cell) - answer(cell, MARK, depth + 1);
                default:
                    return lentSize(cell);
            }
        }

        private int markAsked(int cell, int depth) {
            switch (ground.toldKind(cell)) {
                case LONE_KIND:
                    enter(21);
                    return lentMark(cell) + 1000;
                case PAIRED_KIND:
                    enter(22);
                    return lentMark(cell) + answer(cell, SIZE, depth + 1);
                case RIM_KIND:
                    enter(23);
                    return 2 * lentMark(cell);
                default:
                    return lentMark(cell);
            }
        }

        private int lentSize(int cell) {
            enter(10);
            return ground.ringOf[cell];
        }

        private int lentMark(int cell) {
            enter(20);
            return cell;
        }

        private void enter(int body) {
            if (traced < MOST_TRACED) {
                bodies[traced] = body;
                traced++;
            }
        }
    }
}
