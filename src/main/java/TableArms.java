import java.util.Arrays;

/**
 * Two arms and a table: things on cells and in boxes, lessons and the orders that fit them, plans,
 * nevers, ways of two arms and asks. What each call promises stands in the document, DOC.md.
 *
 * <p>Everything is made in the constructor and used again, so that no call makes an object.
 */
public final class TableArms {
    public static final int NONE = -1000000, BAD = -1000001, STATE = -1000002, FULL = -1000003;

    private static final int NULL = 1, PLACE = 2, KIND = 3, SIZE = 4, STORE = 5;
    private static final int FOUND = -1000010, FAULTY = -1000100;

    private static final int SHEETS = 8, LANES = 3, MOST_ITEMS = 40;
    private static final int CELLS = 8, ROW = 4, ARMS = 2, ALL_CELLS = 255;
    private static final int MOST_THINGS = 6, MOST_WEIGHT = 20, SPOTS = CELLS + MOST_THINGS;
    private static final int SORTS = 4, CUP = 0, CLOTH = 1, BOX = 2, LID = 3;
    private static final int KINDS = 6, A_THING = 0, A_CUP = 1, A_CLOTH = 2, A_BOX = 3, A_SHUT = 4, A_LID = 5;
    private static final int RELS = 3, ON = 0, IN = 1, BESIDE = 2;
    private static final int ORDERS = 96, MOST_KEPT = 8;
    private static final int MOST_LESSONS = 8, TEACHERS = 10, LESSON_ITEMS = 4, LESSONS_AT_ONCE = 4;
    private static final int MOST_BYTES = 300, FEED_BYTES = 8, MOST_LOAD = 200, MOST_NEVERS = 16;
    private static final int MOST_STEPS = 12, MOST_TRACE = 16;

    private final Sheets sheets = new Sheets();
    private final Stock stock = new Stock();
    private final Table now = new Table(stock);
    private final Orders orders = new Orders(stock);
    private final Arms arms = new Arms(stock, orders);
    private final Shelf shelf = new Shelf(stock, orders);
    private final Taught taught = new Taught(shelf);
    private final Rules rules = new Rules(stock);
    private final Reader reader = new Reader(rules);
    private final Crossing crossing = new Crossing();
    private final Asks asks = new Asks(stock, now);
    private int finding;

    public TableArms() {
    }

    // ---- sheets

    public int sheet(int sheet, int lane, int n) {
        if (!isWithin(sheet, SHEETS) || !isWithin(lane, LANES) || n > MOST_ITEMS) {
            return BAD;
        }
        if (n < 0) {
            return found(SIZE);
        }
        sheets.lay(sheet, lane, n);
        return foundNothing(n);
    }

    public int set(int sheet, int i, int v) {
        if (!isWithin(sheet, SHEETS)) {
            return BAD;
        }
        if (sheets.isMissing(sheet)) {
            return found(NULL);
        }
        if (!sheets.spans(sheet, i, 1)) {
            return found(PLACE);
        }
        return foundNothing(sheets.write(sheet, i, v));
    }

    public int copy(int a, int i, int b, int j, int n) {
        if (!isWithin(a, SHEETS) || !isWithin(b, SHEETS)) {
            return BAD;
        }
        if (sheets.isMissing(a) || sheets.isMissing(b)) {
            return found(NULL);
        }
        if (sheets.laneOf(a) != sheets.laneOf(b)) {
            return found(STORE);
        }
        if (!sheets.spans(a, i, n) || !sheets.spans(b, j, n)) {
            return found(PLACE);
        }
        sheets.carry(a, i, b, j, n);
        return foundNothing(n);
    }

    public int drop(int sheet) {
        if (!isWithin(sheet, SHEETS)) {
            return BAD;
        }
        if (sheets.isMissing(sheet)) {
            return found(NULL);
        }
        return foundNothing(sheets.clear(sheet));
    }

    // ---- the table

    public int thing(int sort, int weight, int cell) {
        if (!isWithin(sort, SORTS) || weight < 1 || weight > MOST_WEIGHT || !isWithin(cell, CELLS)) {
            return BAD;
        }
        if (stock.isFull()) {
            return FULL;
        }
        int thing = stock.add(sort, weight);
        now.land(thing, cell);
        shelf.landOnAll(thing, cell);
        return thing;
    }

    public int where(int thing, int what) {
        if (!stock.knows(thing)) {
            return BAD;
        }
        switch (what) {
            case 0:
                return stock.sortOf(thing);
            case 1:
                return stock.weightOf(thing);
            case 2:
                return now.cellOf(thing);
            case 3:
                return now.boxOf(thing) == NONE ? now.depthOf(thing) : NONE;
            case 4:
                return now.boxOf(thing);
            case 5:
                return now.isClear(thing) ? 1 : 0;
            case 6:
                return now.insideOf(thing);
            default:
                return BAD;
        }
    }

    public int pile(int cell, int i) {
        if (!isWithin(cell, CELLS) || i < -1) {
            return BAD;
        }
        return i == -1 ? now.heightOf(cell) : now.foundAt(cell, i);
    }

    public int reach(int arm, int set) {
        if (!isWithin(arm, ARMS) || set < 0 || set > ALL_CELLS) {
            return BAD;
        }
        return arms.stretch(arm, set);
    }

    public int move(int arm, int thing, int to) {
        int refusal = refusalOfMove(arm, thing, to);
        if (refusal != 0) {
            return refusal;
        }
        now.go(thing, to);
        return 1;
    }

    public int keep() {
        return shelf.isFull() ? FULL : shelf.add(now);
    }

    public int back(int kept) {
        if (!shelf.has(kept)) {
            return BAD;
        }
        now.takeOver(shelf.tableAt(kept, now));
        return 1;
    }

    public int same(int a, int b) {
        if (a != NONE && !shelf.has(a) || b != NONE && !shelf.has(b)) {
            return BAD;
        }
        return shelf.tableAt(a, now).picture() == shelf.tableAt(b, now).picture() ? 1 : 0;
    }

    // ---- orders, lessons

    public int order(int order) {
        if (!isWithin(order, ORDERS)) {
            return BAD;
        }
        int moved = orders.perform(order, now);
        return moved == Orders.FAILED ? STATE : moved;
    }

    public int lesson(int start, int end, int no, int teacher) {
        if (!taught.takes(start, end, no, teacher)) {
            return BAD;
        }
        return taught.isFull() ? FULL : taught.add(start, end, no, teacher);
    }

    public int lessons(int sheet, int i, int n) {
        if (!isWithin(sheet, SHEETS) || n < 1 || n > LESSONS_AT_ONCE) {
            return BAD;
        }
        if (sheets.isMissing(sheet)) {
            return found(NULL);
        }
        if (!sheets.spans(sheet, i, LESSON_ITEMS * n)) {
            return found(PLACE);
        }
        int came = 0;
        for (int k = 0; k < n; k++) {
            int at = i + LESSON_ITEMS * k;
            int answer = lesson(sheets.read(sheet, at), sheets.read(sheet, at + 1),
                    sheets.read(sheet, at + 2), sheets.read(sheet, at + 3));
            if (answer >= 0) {
                came++;
            }
        }
        return foundNothing(came);
    }

    public int unteach(int lesson) {
        if (!taught.knows(lesson)) {
            return BAD;
        }
        return taught.takeBack(lesson) ? 1 : STATE;
    }

    public int fits(int i) {
        if (i < -1) {
            return BAD;
        }
        shelf.learn();
        int fitting = taught.gatherFitting();
        return i == -1 ? fitting : taught.fittingAt(i);
    }

    public int barred(int order, int what) {
        if (!isWithin(order, ORDERS) || !isWithin(what, 2)) {
            return BAD;
        }
        shelf.learn();
        int lesson = taught.firstThatBars(order);
        return lesson == NONE || what == 0 ? lesson : taught.teacherOf(lesson);
    }

    public int question(int what) {
        if (!isWithin(what, 2)) {
            return BAD;
        }
        shelf.learn();
        taught.gatherFitting();
        int table = NONE;
        int most = -1;
        for (int kept = 0; kept < shelf.size(); kept++) {
            int unlike = taught.unlikeOn(kept);
            if (unlike > most) {
                table = kept;
                most = unlike;
            }
        }
        return what == 0 ? table : Math.max(most, 0);
    }

    public int quarrel() {
        shelf.learn();
        return taught.leastToTakeBack();
    }

    public int plan(int order, int what) {
        if (!isWithin(order, ORDERS) || !isWithin(what, 2)) {
            return BAD;
        }
        arms.seek(order, now);
        return what == 0 ? arms.fewestMoves() : arms.firstMove();
    }

    // ---- nevers

    public int feed(long w, int n) {
        if (n < 1 || n > FEED_BYTES) {
            return BAD;
        }
        return reader.hasRoomFor(n) ? reader.append(w, n) : FULL;
    }

    public int nevers() {
        return reader.readTape() ? rules.size() : FAULTY - reader.faultPlace();
    }

    public int fault() {
        return reader.latestFault();
    }

    public int broken() {
        return rules.brokenOn(now);
    }

    public int let(int arm, int thing, int to) {
        int refusal = refusalOfMove(arm, thing, to);
        if (refusal != 0) {
            return refusal;
        }
        return isLet(thing, to) ? 1 : 0;
    }

    public int ways(int sheet, int i, int n, int m) {
        if (!isWithin(sheet, SHEETS) || n < 1 || n > MOST_STEPS || m < 1 || m > MOST_STEPS) {
            return BAD;
        }
        if (sheets.isMissing(sheet)) {
            return found(NULL);
        }
        if (!sheets.spans(sheet, i, n + m)) {
            return found(PLACE);
        }
        crossing.lay(sheets, sheet, i, n, m);
        return crossing.isOfRows() ? foundNothing(crossing.fewestTicks()) : BAD;
    }

    // ---- asked

    public int kind(int thing) {
        return stock.knows(thing) ? now.kindOf(thing) : BAD;
    }

    public int as(int thing, int kind) {
        if (!stock.knows(thing) || !isWithin(kind, KINDS)) {
            return BAD;
        }
        int told = now.kindOf(thing);
        boolean isOne = kind == A_THING || kind == told || kind == A_BOX && told == A_SHUT;
        return isOne ? foundNothing(stock.weightOf(thing)) : found(KIND);
    }

    public int ask(int thing, int what) {
        if (!stock.knows(thing) || !isWithin(what, 2)) {
            return BAD;
        }
        return asks.answer(thing, what);
    }

    public int trace(int i) {
        return asks.bodyAt(i);
    }

    public int count(int what) {
        switch (what) {
            case 0:
                return sheets.present();
            case 1:
                return stock.size();
            case 2:
                return shelf.size();
            case 3:
                return taught.standing();
            case 4:
                return rules.size();
            case 5:
                return now.shutBoxes();
            case 6:
                return now.clearThings();
            case 7:
                return reader.bytes();
            default:
                return BAD;
        }
    }

    public int status() {
        return finding;
    }

    private int found(int number) {
        finding = number;
        return FOUND - number;
    }

    private int foundNothing(int answer) {
        finding = 0;
        return answer;
    }

    /** BAD or STATE, as move() and let() both answer them; 0 where the arm can do the move. */
    private int refusalOfMove(int arm, int thing, int to) {
        if (!isWithin(arm, ARMS) || !stock.knows(thing) || !isWithin(to, SPOTS)) {
            return BAD;
        }
        if (to >= CELLS && !stock.isBox(to - CELLS)) {
            return BAD;
        }
        return arms.canDo(arm, now, thing, to) ? 0 : STATE;
    }

    /**
     * A thing that can go was uppermost, or alone in its box: going home undoes each trial. It may
     * come to where it should, or slip to any neighbour of that cell.
     */
    private boolean isLet(int thing, int to) {
        int home = now.spotOf(thing);
        boolean safe = true;
        for (int spot = 0; spot < SPOTS && safe; spot++) {
            if (spot == to || spot < CELLS && to < CELLS && areNeighbours(spot, to)) {
                now.go(thing, spot);
                safe = rules.brokenOn(now) == 0;
                now.go(thing, home);
            }
        }
        return safe;
    }

    private static boolean isWithin(int v, int bound) {
        return v >= 0 && v < bound;
    }

    private static boolean areNeighbours(int a, int b) {
        int gap = Math.abs(a - b);
        return gap == ROW || gap == 1 && a / ROW == b / ROW;
    }

    /** The sheets; one array holds the items of all, so that a new sheet needs no new row. */
    private static final class Sheets {
        private static final int MISSING = -1;

        private final int[] lanes = new int[SHEETS];
        private final int[] sizes = new int[SHEETS];
        private final int[] items = new int[SHEETS * MOST_ITEMS];

        Sheets() {
            Arrays.fill(lanes, MISSING);
        }

        int laneOf(int sheet) {
            return isWithin(sheet, SHEETS) ? lanes[sheet] : MISSING;
        }

        boolean isMissing(int sheet) {
            return laneOf(sheet) == MISSING;
        }

        /** Written as a difference: i + n could run over. */
        boolean spans(int sheet, int i, int n) {
            return isWithin(sheet, SHEETS) && i >= 0 && n >= 0 && i <= sizes[sheet] - n;
        }

        void lay(int sheet, int lane, int n) {
            if (!isWithin(sheet, SHEETS)) {
                return;
            }
            lanes[sheet] = lane;
            sizes[sheet] = n;
            for (int i = 0; i < MOST_ITEMS; i++) {
                items[sheet * MOST_ITEMS + i] = 0;
            }
        }

        int clear(int sheet) {
            if (!isWithin(sheet, SHEETS)) {
                return 0;
            }
            int had = sizes[sheet];
            lanes[sheet] = MISSING;
            sizes[sheet] = 0;
            return had;
        }

        int write(int sheet, int i, int v) {
            if (!spans(sheet, i, 1)) {
                return 0;
            }
            int lane = lanes[sheet];
            int held = lane == 0 ? (byte) v : lane == 1 ? (short) v : v;
            items[sheet * MOST_ITEMS + i] = held;
            return held;
        }

        int read(int sheet, int i) {
            return spans(sheet, i, 1) ? items[sheet * MOST_ITEMS + i] : 0;
        }

        void carry(int a, int i, int b, int j, int n) {
            if (spans(a, i, n) && spans(b, j, n)) {
                System.arraycopy(items, a * MOST_ITEMS + i, items, b * MOST_ITEMS + j, n);
            }
        }

        int present() {
            int there = 0;
            for (int sheet = 0; sheet < SHEETS; sheet++) {
                if (!isMissing(sheet)) {
                    there++;
                }
            }
            return there;
        }
    }

    /** The things that were told: what they are, wherever a table has them. */
    private static final class Stock {
        private final int[] sorts = new int[MOST_THINGS];
        private final int[] weights = new int[MOST_THINGS];
        private int told;

        int size() {
            return told;
        }

        boolean isFull() {
            return told >= MOST_THINGS;
        }

        boolean knows(int thing) {
            return thing >= 0 && thing < told;
        }

        int add(int sort, int weight) {
            if (isFull()) {
                return NONE;
            }
            sorts[told] = sort;
            weights[told] = weight;
            told++;
            return told - 1;
        }

        int sortOf(int thing) {
            return thing >= 0 && thing < told ? sorts[thing] : NONE;
        }

        int weightOf(int thing) {
            return thing >= 0 && thing < told ? weights[thing] : 0;
        }

        boolean isBox(int thing) {
            return sortOf(thing) == BOX;
        }
    }

    /**
     * Where each thing is. A spot is a cell, or CELLS and the number of a box; a pile is told by its
     * top and by what is right below each thing, so that a move and its undoing touch few numbers.
     */
    private static final class Table {
        private final Stock stock;
        private final int[] spots = new int[MOST_THINGS];
        private final int[] belows = new int[MOST_THINGS];
        private final int[] insides = new int[MOST_THINGS];
        private final int[] tops = new int[CELLS];

        Table(Stock stock) {
            this.stock = stock;
            Arrays.fill(spots, NONE);
            Arrays.fill(belows, NONE);
            Arrays.fill(insides, NONE);
            Arrays.fill(tops, NONE);
        }

        int spotOf(int thing) {
            return thing >= 0 && thing < MOST_THINGS ? spots[thing] : NONE;
        }

        int belowOf(int thing) {
            return thing >= 0 && thing < MOST_THINGS ? belows[thing] : NONE;
        }

        int insideOf(int thing) {
            return thing >= 0 && thing < MOST_THINGS ? insides[thing] : NONE;
        }

        int topOf(int cell) {
            return cell >= 0 && cell < CELLS ? tops[cell] : NONE;
        }

        int boxOf(int thing) {
            int spot = spotOf(thing);
            return spot >= CELLS ? spot - CELLS : NONE;
        }

        int cellOf(int thing) {
            return cellAt(spotOf(thing));
        }

        int cellAt(int spot) {
            return spot >= CELLS ? spotOf(spot - CELLS) : spot;
        }

        boolean isClear(int thing) {
            int spot = spotOf(thing);
            return spot >= 0 && spot < CELLS && tops[spot] == thing;
        }

        boolean isFree(int thing) {
            int box = boxOf(thing);
            return isClear(box == NONE ? thing : box);
        }

        boolean isShut(int thing) {
            if (!stock.isBox(thing)) {
                return false;
            }
            for (int above = 0; above < stock.size(); above++) {
                if (belowOf(above) == thing && stock.sortOf(above) == LID) {
                    return true;
                }
            }
            return false;
        }

        int kindOf(int thing) {
            switch (stock.sortOf(thing)) {
                case CUP:
                    return A_CUP;
                case CLOTH:
                    return A_CLOTH;
                case BOX:
                    return isShut(thing) ? A_SHUT : A_BOX;
                case LID:
                    return A_LID;
                default:
                    return A_THING;
            }
        }

        int depthOf(int thing) {
            int depth = 0;
            int below = belowOf(thing);
            for (int k = 0; k < MOST_THINGS && below != NONE; k++) {
                depth++;
                below = belowOf(below);
            }
            return depth;
        }

        int heightOf(int cell) {
            int top = topOf(cell);
            return top == NONE ? 0 : depthOf(top) + 1;
        }

        int foundAt(int cell, int depth) {
            for (int thing = 0; thing < stock.size(); thing++) {
                if (spotOf(thing) == cell && depthOf(thing) == depth) {
                    return thing;
                }
            }
            return NONE;
        }

        boolean hasInPile(int cell, int sort) {
            for (int thing = 0; thing < stock.size(); thing++) {
                if (spotOf(thing) == cell && stock.sortOf(thing) == sort) {
                    return true;
                }
            }
            return false;
        }

        int loadOn(int cell) {
            int load = 0;
            for (int thing = 0; thing < stock.size(); thing++) {
                if (cellOf(thing) == cell) {
                    load += stock.weightOf(thing);
                }
            }
            return load;
        }

        int clearThings() {
            int clear = 0;
            for (int thing = 0; thing < stock.size(); thing++) {
                if (isClear(thing)) {
                    clear++;
                }
            }
            return clear;
        }

        int shutBoxes() {
            int shut = 0;
            for (int thing = 0; thing < stock.size(); thing++) {
                if (isShut(thing)) {
                    shut++;
                }
            }
            return shut;
        }

        boolean isAsTold(int thing, int rel, int sort) {
            if (rel == IN) {
                return sort == BOX && boxOf(thing) != NONE;
            }
            int below = belowOf(thing);
            if (rel == ON) {
                return below != NONE && stock.sortOf(below) == sort;
            }
            return below == NONE && isNextTo(spotOf(thing), sort);
        }

        /** What is in a box is in no pile, so only spots that are cells count. */
        private boolean isNextTo(int cell, int sort) {
            if (cell < 0 || cell >= CELLS) {
                return false;
            }
            for (int other = 0; other < stock.size(); other++) {
                int spot = spotOf(other);
                if (spot >= 0 && spot < CELLS && stock.sortOf(other) == sort && areNeighbours(spot, cell)) {
                    return true;
                }
            }
            return false;
        }

        /** Whether a move is one, by whatever arm. */
        boolean canGo(int thing, int to) {
            if (!isFree(thing)) {
                return false;
            }
            if (to < CELLS) {
                return to >= 0;
            }
            int box = to - CELLS;
            return stock.isBox(box) && !stock.isBox(thing) && isClear(box) && insideOf(box) == NONE;
        }

        /** The thing must be free; what is in it has its box for a spot and so goes along. */
        void go(int thing, int to) {
            int spot = spotOf(thing);
            if (spot >= CELLS && spot < SPOTS) {
                insides[spot - CELLS] = NONE;
            } else if (spot >= 0 && spot < CELLS) {
                tops[spot] = belowOf(thing);
            }
            land(thing, to);
        }

        void land(int thing, int to) {
            if (!isWithin(thing, MOST_THINGS) || !isWithin(to, SPOTS)) {
                return;
            }
            spots[thing] = to;
            if (to >= CELLS) {
                belows[thing] = NONE;
                insides[to - CELLS] = thing;
            } else {
                belows[thing] = tops[to];
                tops[to] = thing;
            }
        }

        void takeOver(Table other) {
            System.arraycopy(other.spots, 0, spots, 0, MOST_THINGS);
            System.arraycopy(other.belows, 0, belows, 0, MOST_THINGS);
            System.arraycopy(other.insides, 0, insides, 0, MOST_THINGS);
            System.arraycopy(other.tops, 0, tops, 0, CELLS);
        }

        /** One number for where all things are: two tables are the same if theirs are. */
        long picture() {
            long all = 0;
            for (int thing = 0; thing < stock.size(); thing++) {
                int below = belowOf(thing);
                all = all << 7 | (long) (spotOf(thing) << 3 | (below == NONE ? 0 : below + 1));
            }
            return all;
        }
    }

    /** What the numbers of orders mean, and how an order is done. */
    private static final class Orders {
        static final int FAILED = -1;

        private final Stock stock;

        Orders(Stock stock) {
            this.stock = stock;
        }

        static boolean isEach(int order) {
            return order % 2 == 1;
        }

        static int movedSort(int order) {
            return order / 2 % SORTS;
        }

        static int relOf(int order) {
            return order / (2 * SORTS) % RELS;
        }

        static int otherSort(int order) {
            return order / (2 * SORTS * RELS);
        }

        /** How many things were put, or FAILED: then none was, so the table is as it was. */
        int perform(int order, Table table) {
            int rel = relOf(order);
            int other = otherSort(order);
            boolean each = isEach(order);
            int wanting = 0;
            int moved = 0;
            for (int thing = 0; thing < stock.size(); thing++) {
                if (stock.sortOf(thing) != movedSort(order) || table.isAsTold(thing, rel, other)) {
                    continue;
                }
                if (each || table.isFree(thing)) {
                    wanting++;
                    moved += put(table, thing, rel, other) ? 1 : 0;
                    if (!each) {
                        break;
                    }
                }
            }
            boolean failed = moved == 0 && (wanting > 0 || !each);
            return failed ? FAILED : moved;
        }

        private boolean put(Table table, int thing, int rel, int other) {
            int to = rel == ON ? spotOn(table, thing, other)
                    : rel == IN ? spotIn(table, other)
                    : spotBeside(table, thing, other);
            if (to == NONE || !table.canGo(thing, to)) {
                return false;
            }
            table.go(thing, to);
            return true;
        }

        private int spotOn(Table table, int thing, int sort) {
            for (int other = 0; other < stock.size(); other++) {
                if (other != thing && stock.sortOf(other) == sort && table.isClear(other)) {
                    return table.spotOf(other);
                }
            }
            return NONE;
        }

        private int spotIn(Table table, int sort) {
            for (int box = 0; sort == BOX && box < stock.size(); box++) {
                if (stock.isBox(box) && table.isClear(box) && table.insideOf(box) == NONE) {
                    return CELLS + box;
                }
            }
            return NONE;
        }

        /** Only the first thing of the sort is looked at, even where its cell has no free neighbour. */
        private int spotBeside(Table table, int thing, int sort) {
            int beside = NONE;
            for (int other = 0; beside == NONE && other < stock.size(); other++) {
                if (other != thing && stock.sortOf(other) == sort && table.boxOf(other) == NONE) {
                    beside = table.spotOf(other);
                }
            }
            for (int cell = 0; beside != NONE && cell < CELLS; cell++) {
                if (areNeighbours(cell, beside) && table.topOf(cell) == NONE) {
                    return cell;
                }
            }
            return NONE;
        }

        /** Whether a table is as the order's end wants it. */
        boolean isEnd(int order, Table table) {
            boolean each = isEach(order);
            int those = 0;
            int asTold = 0;
            for (int thing = 0; thing < stock.size(); thing++) {
                if (stock.sortOf(thing) == movedSort(order)) {
                    those++;
                    asTold += table.isAsTold(thing, relOf(order), otherSort(order)) ? 1 : 0;
                }
            }
            return asTold > 0 && (!each || asTold == those);
        }

        /**
         * Whether a last move of a thing can bring the end about: it makes as told only itself, or
         * those that it comes to be beside.
         */
        boolean canEndBy(int order, int thing) {
            int sort = stock.sortOf(thing);
            return sort == movedSort(order) || relOf(order) == BESIDE && sort == otherSort(order);
        }
    }

    /**
     * The tables that are kept, and what every order gives on each. A kept table changes only when a
     * thing comes, so the outcomes are worked out once, when first asked for.
     */
    private static final class Shelf {
        static final long NO_OUTCOME = -1;

        private final Orders orders;
        private final Table[] tables = new Table[MOST_KEPT];
        private final Table trial;
        private final long[] pictures = new long[MOST_KEPT];
        private final long[] outcomes = new long[MOST_KEPT * ORDERS];
        private int kept;
        private int learned;

        Shelf(Stock stock, Orders orders) {
            this.orders = orders;
            trial = new Table(stock);
            for (int k = 0; k < MOST_KEPT; k++) {
                tables[k] = new Table(stock);
            }
        }

        int size() {
            return kept;
        }

        boolean isFull() {
            return kept >= MOST_KEPT;
        }

        boolean has(int number) {
            return number >= 0 && number < kept;
        }

        Table tableAt(int number, Table otherwise) {
            return has(number) ? tables[number] : otherwise;
        }

        int add(Table table) {
            if (isFull()) {
                return FULL;
            }
            tables[kept].takeOver(table);
            kept++;
            return kept - 1;
        }

        void landOnAll(int thing, int cell) {
            for (int k = 0; k < kept; k++) {
                tables[k].land(thing, cell);
            }
            learned = 0;
        }

        void learn() {
            for (; learned < kept; learned++) {
                Table start = tables[learned];
                pictures[learned] = start.picture();
                for (int order = 0; order < ORDERS; order++) {
                    trial.takeOver(start);
                    boolean failed = orders.perform(order, trial) == Orders.FAILED;
                    outcomes[learned * ORDERS + order] = failed ? NO_OUTCOME : trial.picture();
                }
            }
        }

        long outcome(int number, int order) {
            return has(number) && isWithin(order, ORDERS) ? outcomes[number * ORDERS + order] : NO_OUTCOME;
        }

        long pictureOf(int number) {
            return has(number) ? pictures[number] : 0;
        }
    }

    /** The lessons; what they bar is read off the shelf, which must have learned before. */
    private static final class Taught {
        private final Shelf shelf;
        private final int[] starts = new int[MOST_LESSONS];
        private final int[] ends = new int[MOST_LESSONS];
        private final int[] noes = new int[MOST_LESSONS];
        private final int[] teachers = new int[MOST_LESSONS];
        private final boolean[] stands = new boolean[MOST_LESSONS];
        private final int[] fitting = new int[ORDERS];
        private final long[] unlike = new long[ORDERS];
        private int told;
        private int members;

        Taught(Shelf shelf) {
            this.shelf = shelf;
        }

        boolean takes(int start, int end, int no, int teacher) {
            return shelf.has(start) && shelf.has(end) && isWithin(no, 2) && isWithin(teacher, TEACHERS);
        }

        boolean isFull() {
            return told >= MOST_LESSONS;
        }

        boolean knows(int lesson) {
            return lesson >= 0 && lesson < told;
        }

        int add(int start, int end, int no, int teacher) {
            if (isFull()) {
                return FULL;
            }
            starts[told] = start;
            ends[told] = end;
            noes[told] = no;
            teachers[told] = teacher;
            stands[told] = true;
            told++;
            return told - 1;
        }

        boolean takeBack(int lesson) {
            boolean stood = knows(lesson) && stands[lesson];
            if (stood) {
                stands[lesson] = false;
            }
            return stood;
        }

        int teacherOf(int lesson) {
            return knows(lesson) ? teachers[lesson] : NONE;
        }

        int standing() {
            int all = 0;
            for (int lesson = 0; lesson < told; lesson++) {
                all += stands[lesson] ? 1 : 0;
            }
            return all;
        }

        /** A lesson that was taken back bars nothing. */
        private boolean bars(int lesson, int order) {
            if (!knows(lesson) || !stands[lesson]) {
                return false;
            }
            boolean does = shelf.outcome(starts[lesson], order) == shelf.pictureOf(ends[lesson]);
            return does == (noes[lesson] == 1);
        }

        int firstThatBars(int order) {
            for (int lesson = 0; lesson < told; lesson++) {
                if (bars(lesson, order)) {
                    return lesson;
                }
            }
            return NONE;
        }

        /** Works THE SET out anew, for fittingAt() and unlikeOn(). */
        int gatherFitting() {
            members = 0;
            for (int order = 0; order < ORDERS; order++) {
                if (firstThatBars(order) == NONE) {
                    fitting[members] = order;
                    members++;
                }
            }
            return members;
        }

        int fittingAt(int i) {
            return i >= 0 && i < members ? fitting[i] : NONE;
        }

        int unlikeOn(int kept) {
            int seen = 0;
            for (int k = 0; k < members && k < ORDERS; k++) {
                long outcome = shelf.outcome(kept, fitting[k]);
                if (isNew(outcome, seen)) {
                    unlike[seen] = outcome;
                    seen++;
                }
            }
            return seen;
        }

        private boolean isNew(long outcome, int seen) {
            for (int k = 0; k < seen && k < ORDERS; k++) {
                if (unlike[k] == outcome) {
                    return false;
                }
            }
            return true;
        }

        /** Some order must be freed, and all that bar it suffice: so the least set is one order's. */
        int leastToTakeBack() {
            int least = allThatBar(0);
            for (int order = 1; order < ORDERS; order++) {
                int those = allThatBar(order);
                int more = Integer.bitCount(those) - Integer.bitCount(least);
                if (more < 0 || more == 0 && those < least) {
                    least = those;
                }
            }
            return least;
        }

        private int allThatBar(int order) {
            int those = 0;
            for (int lesson = 0; lesson < told; lesson++) {
                those |= bars(lesson, order) ? 1 << lesson : 0;
            }
            return those;
        }
    }

    /** What each arm reaches, as bits, and the fewest moves by which they come to an order's end. */
    private static final class Arms {
        private static final int MOST_MOVES = 2, THING_STEP = 16;

        private final Stock stock;
        private final Orders orders;
        private final Table trial;
        private final int[] reaches = {ALL_CELLS, ALL_CELLS};
        private int fewest = NONE;
        private int first = NONE;

        Arms(Stock stock, Orders orders) {
            this.stock = stock;
            this.orders = orders;
            trial = new Table(stock);
        }

        int stretch(int arm, int cells) {
            if (!isWithin(arm, ARMS)) {
                return 0;
            }
            int was = reaches[arm];
            reaches[arm] = cells;
            return was;
        }

        boolean canDo(int arm, Table table, int thing, int to) {
            return table.canGo(thing, to) && reachBoth(arm, table.cellOf(thing), table.cellAt(to));
        }

        private boolean reachBoth(int arm, int from, int to) {
            if (!isWithin(arm, ARMS) || !isWithin(from, CELLS) || !isWithin(to, CELLS)) {
                return false;
            }
            int needed = 1 << from | 1 << to;
            return (reaches[arm] & needed) == needed;
        }

        int fewestMoves() {
            return fewest;
        }

        int firstMove() {
            return first;
        }

        void seek(int order, Table from) {
            trial.takeOver(from);
            first = NONE;
            fewest = orders.isEnd(order, trial) ? 0 : NONE;
            for (int moves = 1; moves <= MOST_MOVES && fewest == NONE; moves++) {
                first = leastFirstMove(order, moves);
                fewest = first == NONE ? NONE : moves;
            }
        }

        /** Moves are tried in the order of their numbers, so the first that leads there is the least. */
        private int leastFirstMove(int order, int moves) {
            for (int thing = 0; moves > 0 && thing < stock.size(); thing++) {
                boolean mayHelp = trial.isFree(thing) && (moves > 1 || orders.canEndBy(order, thing));
                for (int to = 0; mayHelp && to < SPOTS; to++) {
                    boolean can = canDo(0, trial, thing, to) || canDo(1, trial, thing, to);
                    if (can && leads(order, moves, thing, to)) {
                        return THING_STEP * thing + to;
                    }
                }
            }
            return NONE;
        }

        private boolean leads(int order, int moves, int thing, int to) {
            int home = trial.spotOf(thing);
            trial.go(thing, to);
            boolean there = moves == 1 ? orders.isEnd(order, trial) : leastFirstMove(order, moves - 1) != NONE;
            trial.go(thing, home);
            return there;
        }
    }

    /** The nevers. Those that are being read wait behind the ones there are, till all is read. */
    private static final class Rules {
        static final int RELATION = 0, LOAD = 1, SITE = 2;

        private final Stock stock;
        private final int[] forms = new int[MOST_NEVERS];
        private final int[] firsts = new int[MOST_NEVERS];
        private final int[] seconds = new int[MOST_NEVERS];
        private final int[] thirds = new int[MOST_NEVERS];
        private int settled;
        private int waiting;

        Rules(Stock stock) {
            this.stock = stock;
        }

        int size() {
            return settled;
        }

        boolean isFull() {
            return settled + waiting >= MOST_NEVERS;
        }

        boolean await(int form, int first, int second, int third) {
            int at = settled + waiting;
            if (!isWithin(at, MOST_NEVERS)) {
                return false;
            }
            forms[at] = form;
            firsts[at] = first;
            seconds[at] = second;
            thirds[at] = third;
            waiting++;
            return true;
        }

        void settle(boolean allRead) {
            settled += allRead ? waiting : 0;
            waiting = 0;
        }

        int brokenOn(Table table) {
            int all = 0;
            for (int rule = 0; rule < settled && rule < MOST_NEVERS; rule++) {
                all += isBrokenOn(table, rule) ? 1 : 0;
            }
            return all;
        }

        private boolean isBrokenOn(Table table, int rule) {
            if (forms[rule] == LOAD) {
                return table.loadOn(firsts[rule]) > seconds[rule];
            }
            if (forms[rule] == SITE) {
                return table.hasInPile(seconds[rule], firsts[rule]);
            }
            for (int thing = 0; thing < stock.size(); thing++) {
                if (stock.sortOf(thing) == firsts[rule] && table.isAsTold(thing, seconds[rule], thirds[rule])) {
                    return true;
                }
            }
            return false;
        }
    }

    /** The tape, and its reading token by token up to the first fault. */
    private static final class Reader {
        private static final int MISPLACED = 1, WRONG_NUMBER = 2, TOO_MANY = 3;
        private static final int END = 0, NAME = 1, NUMBER = 2, STOP = 3, NO_TOKEN = 4, BLANK = 5;
        private static final int MOST_FIGURES = 3;

        private final Rules rules;
        private final byte[] tape = new byte[MOST_BYTES];
        private int length;
        private int token;
        private int tokenStart;
        private int tokenEnd;
        private int latest;
        private int place;

        Reader(Rules rules) {
            this.rules = rules;
        }

        int bytes() {
            return length;
        }

        int latestFault() {
            return latest;
        }

        int faultPlace() {
            return place;
        }

        boolean hasRoomFor(int n) {
            return n <= MOST_BYTES - length;
        }

        int append(long w, int n) {
            for (int k = n - 1; k >= 0 && length < MOST_BYTES; k--) {
                tape[length] = (byte) (w >> 8 * k);
                length++;
            }
            return length;
        }

        boolean readTape() {
            tokenEnd = 0;
            advance();
            boolean fine = true;
            for (int k = 0; k < MOST_BYTES && fine && token != END; k++) {
                fine = readNever();
            }
            rules.settle(fine);
            length = 0;
            return fine;
        }

        private boolean readNever() {
            boolean most = isWord("most");
            if (!most && !isWord("never")) {
                return wrong(MISPLACED);
            }
            if (rules.isFull()) {
                return wrong(TOO_MANY);
            }
            advance();
            return most ? readLoad() : readForbidden();
        }

        private boolean readLoad() {
            int cell = takeNumber(CELLS - 1);
            int load = cell == NONE ? NONE : takeNumber(MOST_LOAD);
            return load != NONE && takeStop() && rules.await(Rules.LOAD, cell, load, 0);
        }

        private boolean readForbidden() {
            int sort = takeSort();
            if (sort != NONE && isWord("at")) {
                advance();
                int cell = takeNumber(CELLS - 1);
                return cell != NONE && takeStop() && rules.await(Rules.SITE, sort, cell, 0);
            }
            int rel = sort == NONE ? NONE : takeRel();
            int other = rel == NONE ? NONE : takeSort();
            return other != NONE && takeStop() && rules.await(Rules.RELATION, sort, rel, other);
        }

        private int takeSort() {
            int sort = isWord("cup") ? CUP : isWord("cloth") ? CLOTH : isWord("box") ? BOX : isWord("lid") ? LID : NONE;
            return taken(sort);
        }

        private int takeRel() {
            int rel = isWord("on") ? ON : isWord("in") ? IN : isWord("beside") ? BESIDE : NONE;
            return taken(rel);
        }

        private int takeNumber(int most) {
            int number = token == NUMBER ? numberTold() : NONE;
            if (number > most) {
                wrong(WRONG_NUMBER);
                return NONE;
            }
            return taken(number);
        }

        private int numberTold() {
            int number = 0;
            for (int at = tokenStart; at < tokenEnd && at < MOST_BYTES; at++) {
                number = number * 10 + tape[at] - '0';
            }
            return number;
        }

        private boolean takeStop() {
            return taken(token == STOP ? 0 : NONE) != NONE;
        }

        private int taken(int value) {
            if (value == NONE) {
                wrong(MISPLACED);
            } else {
                advance();
            }
            return value;
        }

        private boolean wrong(int fault) {
            latest = fault;
            place = tokenStart;
            return false;
        }

        /** A name or a number goes as far as its like does; too long a row of figures is no token. */
        private void advance() {
            int at = tokenEnd;
            while (at < length && classAt(at) == BLANK) {
                at++;
            }
            tokenStart = at;
            token = classAt(at);
            at++;
            while (at < length && (token == NAME || token == NUMBER) && classAt(at) == token) {
                at++;
            }
            tokenEnd = at;
            if (token == NUMBER && tokenEnd - tokenStart > MOST_FIGURES) {
                token = NO_TOKEN;
            }
        }

        private int classAt(int at) {
            if (at < 0 || at >= length || at >= MOST_BYTES) {
                return END;
            }
            int sign = tape[at];
            if (sign >= 'a' && sign <= 'z') {
                return NAME;
            }
            if (sign >= '0' && sign <= '9') {
                return NUMBER;
            }
            if (sign == ' ' || sign == '\n') {
                return BLANK;
            }
            return sign == ';' ? STOP : NO_TOKEN;
        }

        private boolean isWord(String word) {
            boolean alike = token == NAME && tokenEnd - tokenStart == word.length();
            for (int k = 0; alike && k < word.length() && tokenStart + k < MOST_BYTES; k++) {
                alike = tape[tokenStart + k] == word.charAt(k);
            }
            return alike;
        }
    }

    /** Two arms along their rows: the fewest ticks to each pair of steps. */
    private static final class Crossing {
        private static final int NEVER = 1000;

        private final int[] left = new int[MOST_STEPS];
        private final int[] right = new int[MOST_STEPS];
        private final int[] ticks = new int[MOST_STEPS * MOST_STEPS];
        private int leftSteps;
        private int rightSteps;

        void lay(Sheets sheets, int sheet, int i, int n, int m) {
            leftSteps = Math.min(n, MOST_STEPS);
            rightSteps = Math.min(m, MOST_STEPS);
            for (int p = 0; p < leftSteps; p++) {
                left[p] = sheets.read(sheet, i + p);
            }
            for (int q = 0; q < rightSteps; q++) {
                right[q] = sheets.read(sheet, i + n + q);
            }
        }

        boolean isOfRows() {
            return isRow(left, leftSteps) && isRow(right, rightSteps);
        }

        private static boolean isRow(int[] cells, int steps) {
            for (int p = 0; p < steps && p < cells.length; p++) {
                if (!isWithin(cells[p], CELLS)) {
                    return false;
                }
                if (p > 0 && cells[p] != cells[p - 1] && !areNeighbours(cells[p], cells[p - 1])) {
                    return false;
                }
            }
            return true;
        }

        /** No arm goes back, so every pair is reached from pairs that were worked out before it. */
        int fewestTicks() {
            int last = NEVER;
            for (int p = 0; p < leftSteps; p++) {
                for (int q = 0; q < rightSteps; q++) {
                    last = ticksTo(p, q);
                    ticks[p * MOST_STEPS + q] = last;
                }
            }
            return last >= NEVER ? NONE : last;
        }

        private int ticksTo(int p, int q) {
            if (!isWithin(p, MOST_STEPS) || !isWithin(q, MOST_STEPS) || left[p] == right[q]) {
                return NEVER;
            }
            if (p == 0 && q == 0) {
                return 0;
            }
            int ahead = Math.min(ticksAt(p - 1, q), ticksAt(p, q - 1));
            if (p > 0 && q > 0 && !(left[p - 1] == right[q] && left[p] == right[q - 1])) {
                ahead = Math.min(ahead, ticksAt(p - 1, q - 1));
            }
            return Math.min(ahead + 1, NEVER);
        }

        private int ticksAt(int p, int q) {
            return isWithin(p, MOST_STEPS) && isWithin(q, MOST_STEPS) ? ticks[p * MOST_STEPS + q] : NEVER;
        }
    }

    /** The asks of things, by bodies, and the trace that these leave. */
    private static final class Asks {
        private static final int LENT_SIZE = 10, CUP_SIZE = 11, BOX_SIZE = 12, SHUT_SIZE = 13, LID_SIZE = 14;
        private static final int LENT_MARK = 20, CUP_MARK = 21, SHUT_MARK = 22, CLOTH_MARK = 23;
        private static final int DEEPEST = 8;

        private final Stock stock;
        private final Table table;
        private final int[] bodies = new int[MOST_TRACE];
        private int begun;

        Asks(Stock stock, Table table) {
            this.stock = stock;
            this.table = table;
        }

        int bodyAt(int i) {
            return i >= 0 && i < begun && i < MOST_TRACE ? bodies[i] : NONE;
        }

        int answer(int thing, int what) {
            begun = 0;
            return run(what == 0 ? sizeBody(thing) : markBody(thing), thing, 0);
        }

        private int sizeBody(int thing) {
            switch (table.kindOf(thing)) {
                case A_CUP:
                    return CUP_SIZE;
                case A_BOX:
                    return BOX_SIZE;
                case A_SHUT:
                    return SHUT_SIZE;
                case A_LID:
                    return LID_SIZE;
                default:
                    return LENT_SIZE;
            }
        }

        private int markBody(int thing) {
            switch (table.kindOf(thing)) {
                case A_CUP:
                    return CUP_MARK;
                case A_SHUT:
                    return SHUT_MARK;
                case A_CLOTH:
                    return CLOTH_MARK;
                default:
                    return LENT_MARK;
            }
        }

        private int run(int body, int thing, int depth) {
            if (depth > DEEPEST) {
                return 0;
            }
            begin(body);
            int deeper = depth + 1;
            switch (body) {
                case LENT_SIZE:
                    return stock.weightOf(thing);
                case CUP_SIZE:
                    return run(LENT_SIZE, thing, deeper) + run(markBody(thing), thing, deeper);
                case BOX_SIZE:
                    return run(LENT_SIZE, thing, deeper) + stock.weightOf(table.insideOf(thing));
                case SHUT_SIZE:
                    return 2 * run(BOX_SIZE, thing, deeper);
                case LID_SIZE:
                    return run(LENT_SIZE, thing, deeper) + table.depthOf(thing);
                case CUP_MARK:
                    return run(LENT_MARK, thing, deeper) + (table.isClear(thing) ? 100 : 0);
                case SHUT_MARK:
                    return run(LENT_MARK, thing, deeper) + run(sizeBody(thing), thing, deeper);
                case CLOTH_MARK:
                    return run(LENT_MARK, thing, deeper) + 1000;
                default:
                    return thing;
            }
        }

        private void begin(int body) {
            if (begun >= 0 && begun < MOST_TRACE) {
                bodies[begun] = body;
                begun++;
            }
        }
    }
}
