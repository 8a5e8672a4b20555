/**
 * Boots that want to go home: men whose boots turn a little, at each halt, toward the village
 * from which they are. The document (../shared/DOC.md) says what each call answers.
 */
public final class BootsTurnHome {
    public static final int BAD = -1, NO = -2, FULL = -3, NONE = -4;

    private static final int SIDE = 16, CELLS = 256, WAYS = 8;
    private static final int MOST_LETTERS = 200, MOST_HOMES = 4, MOST_MEN = 6, MOST_ORDERS = 6;
    private static final int MOST_SEEN = 6, MOST_UNDONE = 8, MOST_KEPT = 2;
    private static final int MOST_STEPS = 9, LAST_KIND = 4, FAR_AT_FIRST = 4;
    private static final int LONGEST_WAY_HOME = 60, MOST_BRINGING = 3, LONGEST_BRINGING = 3;
    private static final int LAST_SEED = 9999, LONGEST_MARCH = 40, TEN = 10;
    private static final String FIRST_TEXT =
        "h2,13;h12,3;m8,8,0,0,0,0;m8,9,0,0,1,0;m7,8,0,1,1,1;m9,8,0,0,0,2;m8,7,0,1,1,4;o0,3;o2,2;o1,4;";

    private final char[] letters = new char[MOST_LETTERS];
    private int length;
    private final Reader reader = new Reader();
    private final Land land = new Land();
    private final Column column = new Column();
    private final Column trial = new Column();
    private final Row row = new Row();
    private final Sight sight = new Sight();
    private final Pile undoable = new Pile(MOST_UNDONE);
    private final Pile kept = new Pile(MOST_KEPT);
    private final Guide guide = new Guide();
    private final Dealer dealer = new Dealer();

    public BootsTurnHome() {
        char[] first = FIRST_TEXT.toCharArray();
        reader.readAll(first, first.length);
        takeWhatWasRead();
    }

    // ---- lands

    public int write(int letter) {
        if (!isWithin(letter, 32, 126)) {
            return BAD;
        }
        if (length >= MOST_LETTERS) {
            return FULL;
        }
        letters[length] = (char) letter;
        length++;
        return length;
    }

    public int wipe() {
        int was = length;
        length = 0;
        return was;
    }

    public int fault() {
        return reader.readAll(letters, length);
    }

    public int lay() {
        if (reader.readAll(letters, length) != NONE || !reader.hasHomeAndMan()) {
            return NO;
        }
        takeWhatWasRead();
        return land.men;
    }

    public int man(int i, int what) {
        if (!isMan(i)) {
            return BAD;
        }
        switch (what) {
            case 0: case 1: case 2: return Ways.partOf(column.spot[i], what);
            case 3: return land.left[i];
            case 4: return column.right[i];
            case 5: return land.kind[i];
            case 6: return asNumber(column.isTied(i));
            case 7: return asNumber(column.isLost(i, land));
            case 8: return asNumber(column.isAtHome(i, land));
            default: return BAD;
        }
    }

    public int home(int h, int what) {
        if (!isWithin(h, 0, land.homes - 1) || !isWithin(what, 0, 1)) {
            return BAD;
        }
        return what == 0 ? Ways.columnOf(land.homeCell[h]) : Ways.rowOf(land.homeCell[h]);
    }

    public int told(int k) {
        if (k < 0) {
            return BAD;
        }
        return k < row.length ? row.asTold(k) : NONE;
    }

    public int toward(int x, int y, int u, int v) {
        if (!isCell(x, y) || !isCell(u, v)) {
            return BAD;
        }
        return Ways.wayTo(Ways.cellAt(x, y), Ways.cellAt(u, v));
    }

    // ---- orders

    public int order(int r, int n) {
        if (!isOrder(r, n)) {
            return BAD;
        }
        undoable.put(column);
        column.obey(r, n, land);
        return column.lostMen(land);
    }

    public int tie(int i, boolean tied) {
        if (!isMan(i)) {
            return BAD;
        }
        if (column.isTied(i) == tied) {
            return NO;
        }
        undoable.put(column);
        column.changeTie(i);
        return column.tiedMen();
    }

    public int swap(int i, int j) {
        if (!isMan(i) || !isMan(j) || i == j) {
            return BAD;
        }
        undoable.put(column);
        int boot = column.right[i];
        column.right[i] = column.right[j];
        column.right[j] = boot;
        return column.right[i];
    }

    public int undo() {
        if (undoable.held == 0) {
            return NO;
        }
        undoable.takeInto(column);
        return undoable.held;
    }

    public int tell(int r, int n) {
        if (!isOrder(r, n)) {
            return BAD;
        }
        return row.add(r, n) ? row.length : FULL;
    }

    public int noRow() {
        int was = row.length;
        row.length = 0;
        sight.held = 0;
        return was;
    }

    // ---- rows of orders

    public int behind(int k, int i, int what) {
        if (!isWithin(k, 0, row.length) || !isMan(i) || !isWithin(what, 0, 2)) {
            return BAD;
        }
        int spot = column.spot[i];
        for (int o = 0; o < k; o++) {
            spot = spotAfter(i, spot, row.turn[o], row.steps[o], o);
        }
        return Ways.partOf(spot, what);
    }

    public int strayed() {
        trial.copyFrom(column);
        for (int o = 0; o < row.length; o++) {
            trial.obey(row.turn[o], row.steps[o], land);
            if (trial.lostMen(land) > 0) {
                return o + 1;
            }
        }
        return NONE;
    }

    public int bring(int i, int x, int y, int k) {
        if (!isMan(i) || !isCell(x, y) || !isWithin(k, 0, MOST_BRINGING)) {
            return BAD;
        }
        guide.setOut(Ways.cellAt(x, y), column.pullOn(i, land), land.kind[i]);
        int fewest = guide.fewestOrders(column.spot[i], column.given);
        if (fewest == NONE || k == 0) {
            return fewest;
        }
        return k <= fewest ? guide.found[k - 1] : NONE;
    }

    public int pairs(int i) {
        if (i != -1 && !isMan(i)) {
            return BAD;
        }
        dealer.deal(land, column);
        return i == -1 ? dealer.most : dealer.best[i];
    }

    public int homeward(int i) {
        if (!isMan(i)) {
            return BAD;
        }
        int goal = land.homeCell[land.left[i]];
        int spot = column.spot[i];
        for (int gone = 0; gone <= LONGEST_WAY_HOME; gone++) {
            if (Ways.cellOf(spot) == goal) {
                return gone;
            }
            spot = spotAfter(i, spot, 0, 1, gone);
        }
        return NONE;
    }

    // ---- what was seen

    public int seen(int i, int t, int faced) {
        if (!isMan(i) || !isWithin(t, 1, row.length) || !isWithin(faced, 0, WAYS - 1)) {
            return BAD;
        }
        return sight.add(i, t, faced) ? sight.held : FULL;
    }

    public int forget() {
        int was = sight.held;
        sight.held = 0;
        return was;
    }

    public int villages(int i, int what) {
        if (!isMan(i) || !isWithin(what, 0, 1)) {
            return BAD;
        }
        int fitting = 0;
        for (int cell = 0; cell < CELLS; cell++) {
            if (sight.fits(i, column.spot[i], cell, row)) {
                if (what == 1) {
                    return cell;
                }
                fitting++;
            }
        }
        return what == 1 ? NONE : fitting;
    }

    // ---- leanings, storms

    public int strays(int what) {
        if (!isWithin(what, 0, 1)) {
            return BAD;
        }
        int straying = 0;
        for (int i = 0; i < land.men; i++) {
            int now = column.spot[i];
            if (Ways.halted(now, column.pullOn(i, land), land.kind[i], column.given + 1) != now) {
                straying |= 1 << i;
            }
        }
        return what == 0 ? Integer.bitCount(straying) : straying;
    }

    public int lean(int what) {
        if (!isWithin(what, 0, 1)) {
            return BAD;
        }
        int way = 0;
        int most = 0;
        for (int w = 0; w < WAYS; w++) {
            int looking = column.menLooking(w, land);
            if (looking > most) {
                most = looking;
                way = w;
            }
        }
        return what == 0 ? way : most;
    }

    public int storms(int i, int x, int y, int odds, int part) {
        if (!isMan(i) || !isCell(x, y) || !isWithin(odds, 0, TEN) || !isWithin(part, 0, 1)) {
            return BAD;
        }
        int cell = Ways.cellAt(x, y);
        int above = 0;
        for (int storm = 0; storm < 1 << row.length; storm++) {
            if (Ways.cellOf(spotBehindStorm(i, storm)) == cell) {
                above += weightOf(storm, odds);
            }
        }
        int below = 1;
        for (int o = 0; o < row.length; o++) {
            below *= TEN;
        }
        int shared = sharedDivisor(below, above);
        return (part == 0 ? above : below) / shared;
    }

    public int march(int z, int n, int what) {
        if (!isWithin(z, 0, LAST_SEED) || !isWithin(n, 1, LONGEST_MARCH) || !isWithin(what, 0, 1)) {
            return BAD;
        }
        trial.copyFrom(column);
        int timesHome = 0;
        for (int k = 0; k < n; k++) {
            int draw = drawOf(z, k);
            trial.obey(draw % WAYS, draw / WAYS % 4, land);
            if (trial.isAnybodyAtHome(land)) {
                timesHome++;
            }
        }
        return what == 0 ? trial.lostMen(land) : timesHome;
    }

    public int keep() {
        if (kept.held >= MOST_KEPT) {
            return FULL;
        }
        kept.put(column);
        return kept.held;
    }

    public int back() {
        if (kept.held == 0) {
            return NO;
        }
        kept.takeInto(column);
        undoable.held = 0;
        return kept.held;
    }

    public int count(int what) {
        switch (what) {
            case 0: return land.homes;
            case 1: return land.men;
            case 2: return row.length;
            case 3: return column.given;
            case 4: return column.tiedMen();
            case 5: return column.lostMen(land);
            case 6: return sight.held;
            case 7: return undoable.held;
            case 8: return kept.held;
            case 9: return length;
            default: return BAD;
        }
    }

    // ---- helpers

    private void takeWhatWasRead() {
        land.copyFrom(reader.land);
        column.copyFrom(reader.column);
        row.copyFrom(reader.row);
        sight.held = 0;
        undoable.held = 0;
        kept.held = 0;
    }

    /** Where man i is behind one order more, when ahead orders were gone through since now. */
    private int spotAfter(int i, int spot, int r, int n, int ahead) {
        return Ways.ordered(spot, r, n, column.pullOn(i, land), land.kind[i], column.given + ahead + 1);
    }

    /** Where man i is behind the row, whose o-th order the storm strikes if its o-th bit is 1. */
    private int spotBehindStorm(int i, int storm) {
        int spot = column.spot[i];
        for (int o = 0; o < row.length; o++) {
            int struck = storm >> o & 1;
            spot = spotAfter(i, spot, row.turn[o], Math.max(0, row.steps[o] - struck), o);
        }
        return spot;
    }

    private int weightOf(int storm, int odds) {
        int weight = 1;
        for (int o = 0; o < row.length; o++) {
            weight *= (storm >> o & 1) == 1 ? odds : TEN - odds;
        }
        return weight;
    }

    private boolean isMan(int i) {
        return isWithin(i, 0, land.men - 1);
    }

    private static boolean isCell(int x, int y) {
        return isWithin(x, 0, SIDE - 1) && isWithin(y, 0, SIDE - 1);
    }

    private static boolean isOrder(int r, int n) {
        return isWithin(r, 0, WAYS - 1) && isWithin(n, 0, MOST_STEPS);
    }

    private static boolean isWithin(int number, int lowest, int highest) {
        return number >= lowest && number <= highest;
    }

    private static int asNumber(boolean so) {
        return so ? 1 : 0;
    }

    /** The greatest number that divides both; at least 1, so that it can divide. */
    private static int sharedDivisor(int a, int b) {
        int greater = a;
        int smaller = b;
        // each round at least halves every second rest, so an int needs fewer rounds than this
        for (int round = 0; round < 64 && smaller > 0; round++) {
            int rest = greater % smaller;
            greater = smaller;
            smaller = rest;
        }
        return Math.max(1, greater);
    }

    private static int drawOf(int z, int k) {
        // long, since the square of a late draw's x is beyond an int
        long x = 7919L * z + 6151L * k + 1L;
        return (int) (x * x % 65521L / 8L);
    }

    /**
     * A cell is 16 times its row and its column; a spot is 8 times a cell and the way one looks.
     * Being numbers, they can be tried out without making objects.
     */
    private static final class Ways {
        private static final int[] COLUMN_STEP = {0, 1, 1, 1, 0, -1, -1, -1};
        private static final int[] ROW_STEP = {-1, -1, 0, 1, 1, 1, 0, -1};
        private static final int PLAIN = 0, OLD = 1, NEW = 2, CONTRARY = 4;
        private static final int JUST_AWAY = 4;

        static int cellAt(int x, int y) {
            return SIDE * y + x;
        }

        static int columnOf(int cell) {
            return cell % SIDE;
        }

        static int rowOf(int cell) {
            return cell / SIDE;
        }

        static int spotAt(int x, int y, int looks) {
            return WAYS * cellAt(x, y) + looks;
        }

        static int cellOf(int spot) {
            return spot / WAYS;
        }

        static int lookOf(int spot) {
            return spot % WAYS;
        }

        /** A spot's column (0), row (1), way one looks (2), as the face numbers them. */
        static int partOf(int spot, int what) {
            if (what == 0) {
                return columnOf(cellOf(spot));
            }
            return what == 1 ? rowOf(cellOf(spot)) : lookOf(spot);
        }

        static int apart(int from, int to) {
            return Math.max(Math.abs(columnOf(from) - columnOf(to)), Math.abs(rowOf(from) - rowOf(to)));
        }

        static int wayTo(int from, int to) {
            int east = columnOf(to) - columnOf(from);
            int south = rowOf(to) - rowOf(from);
            int columns = Math.abs(east);
            int rows = Math.abs(south);
            if (columns == 0 && rows == 0) {
                return NONE;
            }
            if (2 * rows < columns) {
                return east > 0 ? 2 : 6;
            }
            if (2 * columns < rows) {
                return south > 0 ? 4 : 0;
            }
            if (south < 0) {
                return east > 0 ? 1 : 7;
            }
            return east > 0 ? 3 : 5;
        }

        static int ordered(int spot, int r, int n, int pull, int kind, int halt) {
            return halted(marched(spot, r, n), pull, kind, halt);
        }

        static int marched(int spot, int r, int n) {
            int looks = (lookOf(spot) + r) % WAYS;
            int x = columnOf(cellOf(spot));
            int y = rowOf(cellOf(spot));
            for (int step = 0; step < n; step++) {
                int nextX = x + COLUMN_STEP[looks];
                int nextY = y + ROW_STEP[looks];
                if (!isCell(nextX, nextY)) {
                    break;
                }
                x = nextX;
                y = nextY;
            }
            return spotAt(x, y, looks);
        }

        /** Where one is behind the halt-th halt of all, whose boots pull to a cell (or NONE). */
        static int halted(int spot, int pull, int kind, int halt) {
            if (pull == NONE) {
                return spot;
            }
            int way = wayTo(cellOf(spot), pull);
            if (way == NONE) {
                return spot;
            }
            int looks = lookOf(spot);
            int turned = looks + eighthsToRight(kind, shorterTurn(looks, way), halt) + WAYS;
            return spot - looks + turned % WAYS;
        }

        /** The eighths to the right (-3 to 4) that bring one from a way to another. */
        static int shorterTurn(int looks, int way) {
            int right = (way - looks + WAYS) % WAYS;
            return right > JUST_AWAY ? right - WAYS : right;
        }

        static int eighthsToRight(int kind, int needed, int halt) {
            switch (kind) {
                case PLAIN: return atMost(1, needed);
                case OLD: return atMost(2, needed);
                case NEW: return halt % 2 == 0 ? atMost(1, needed) : 0;
                case CONTRARY: return contrary(needed);
                default: return 0;
            }
        }

        static int atMost(int eighths, int needed) {
            return Math.max(-eighths, Math.min(eighths, needed));
        }

        static int contrary(int needed) {
            if (needed == JUST_AWAY) {
                return 0;
            }
            return needed < 0 ? 1 : -1;
        }
    }

    /** What stays as it was laid. */
    private static final class Land {
        int homes;
        int men;
        int far;
        final int[] homeCell = new int[MOST_HOMES];
        final int[] left = new int[MOST_MEN];
        final int[] kind = new int[MOST_MEN];

        void copyFrom(Land other) {
            homes = other.homes;
            men = other.men;
            far = other.far;
            System.arraycopy(other.homeCell, 0, homeCell, 0, MOST_HOMES);
            System.arraycopy(other.left, 0, left, 0, MOST_MEN);
            System.arraycopy(other.kind, 0, kind, 0, MOST_MEN);
        }
    }

    /** What orders, ties and changes of boots change: just what is undone and kept. */
    private static final class Column {
        final int[] spot = new int[MOST_MEN];
        final int[] right = new int[MOST_MEN];
        int tiedBits;
        int given;

        void copyFrom(Column other) {
            System.arraycopy(other.spot, 0, spot, 0, MOST_MEN);
            System.arraycopy(other.right, 0, right, 0, MOST_MEN);
            tiedBits = other.tiedBits;
            given = other.given;
        }

        void obey(int r, int n, Land land) {
            given++;
            for (int i = 0; i < land.men; i++) {
                spot[i] = Ways.ordered(spot[i], r, n, pullOn(i, land), land.kind[i], given);
            }
        }

        /** The cell to which a man's boots turn, NONE if they do not pull together. */
        int pullOn(int i, Land land) {
            return isTied(i) || land.left[i] != right[i] ? NONE : land.homeCell[right[i]];
        }

        boolean isTied(int i) {
            return (tiedBits >> i & 1) == 1;
        }

        void changeTie(int i) {
            tiedBits ^= 1 << i;
        }

        int tiedMen() {
            return Integer.bitCount(tiedBits);
        }

        boolean isLost(int i, Land land) {
            return Ways.apart(Ways.cellOf(spot[i]), Ways.cellOf(spot[0])) > land.far;
        }

        int lostMen(Land land) {
            int lost = 0;
            for (int i = 0; i < land.men; i++) {
                lost += asNumber(isLost(i, land));
            }
            return lost;
        }

        boolean isAtHome(int i, Land land) {
            return Ways.cellOf(spot[i]) == land.homeCell[land.left[i]];
        }

        boolean isAnybodyAtHome(Land land) {
            for (int i = 0; i < land.men; i++) {
                if (isAtHome(i, land)) {
                    return true;
                }
            }
            return false;
        }

        int menLooking(int way, Land land) {
            int looking = 0;
            for (int i = 0; i < land.men; i++) {
                looking += asNumber(Ways.lookOf(spot[i]) == way);
            }
            return looking;
        }
    }

    /** THE ROW. */
    private static final class Row {
        final int[] turn = new int[MOST_ORDERS];
        final int[] steps = new int[MOST_ORDERS];
        int length;

        boolean add(int r, int n) {
            if (length >= MOST_ORDERS) {
                return false;
            }
            turn[length] = r;
            steps[length] = n;
            length++;
            return true;
        }

        int asTold(int k) {
            return 10 * turn[k] + steps[k];
        }

        void copyFrom(Row other) {
            System.arraycopy(other.turn, 0, turn, 0, MOST_ORDERS);
            System.arraycopy(other.steps, 0, steps, 0, MOST_ORDERS);
            length = other.length;
        }
    }

    /** Reads a text into a land, column and row of its own, so that a faulty text changes nothing. */
    private static final class Reader {
        private static final int NOT_SO = -1;

        final Land land = new Land();
        final Column column = new Column();
        final Row row = new Row();
        private final int[] numbers = new int[6];

        boolean hasHomeAndMan() {
            return land.homes > 0 && land.men > 0;
        }

        /** The place of the first item that is not so, or NONE. */
        int readAll(char[] letters, int length) {
            land.homes = 0;
            land.men = 0;
            land.far = FAR_AT_FIRST;
            row.length = 0;
            int place = 0;
            for (int item = 0; item < MOST_LETTERS && place < length; item++) {
                int next = readItem(letters, length, place);
                if (next == NOT_SO) {
                    return place;
                }
                place = next;
            }
            return NONE;
        }

        /** The place behind the item, or NOT_SO. */
        private int readItem(char[] letters, int length, int place) {
            int wanted = numbersBehind(letters[place]);
            int at = place + 1;
            for (int k = 0; k < wanted; k++) {
                int figures = figuresAt(letters, length, at);
                int close = at + figures;
                if (figures == 0 || close >= length || letters[close] != (k + 1 < wanted ? ',' : ';')) {
                    return NOT_SO;
                }
                numbers[k] = numberAt(letters, at, close);
                at = close + 1;
            }
            return takeItem(letters[place]) ? at : NOT_SO;
        }

        private static int numbersBehind(char letter) {
            switch (letter) {
                case 'h': case 'o': return 2;
                case 'm': return 6;
                case 'd': return 1;
                default: return 0;
            }
        }

        /** How many figures stand there; more than two are no number, so the third is not read. */
        private static int figuresAt(char[] letters, int length, int at) {
            int figures = 0;
            while (figures < 2 && at + figures < length && isWithin(letters[at + figures], '0', '9')) {
                figures++;
            }
            return figures;
        }

        private static int numberAt(char[] letters, int at, int close) {
            int number = 0;
            for (int p = at; p < close; p++) {
                number = 10 * number + letters[p] - '0';
            }
            return number;
        }

        private boolean takeItem(char letter) {
            switch (letter) {
                case 'h': return takeHome();
                case 'm': return takeMan();
                case 'o': return isOrder(numbers[0], numbers[1]) && row.add(numbers[0], numbers[1]);
                case 'd': return takeFar();
                default: return false;
            }
        }

        private boolean takeHome() {
            if (land.homes >= MOST_HOMES || !isCell(numbers[0], numbers[1])) {
                return false;
            }
            land.homeCell[land.homes] = Ways.cellAt(numbers[0], numbers[1]);
            land.homes++;
            return true;
        }

        private boolean takeMan() {
            if (land.men >= MOST_MEN || !isCell(numbers[0], numbers[1]) || !isWithin(numbers[2], 0, WAYS - 1)) {
                return false;
            }
            if (numbers[3] >= land.homes || numbers[4] >= land.homes || numbers[5] > LAST_KIND) {
                return false;
            }
            column.spot[land.men] = Ways.spotAt(numbers[0], numbers[1], numbers[2]);
            land.left[land.men] = numbers[3];
            column.right[land.men] = numbers[4];
            land.kind[land.men] = numbers[5];
            land.men++;
            return true;
        }

        private boolean takeFar() {
            if (!isWithin(numbers[0], 1, SIDE - 1)) {
                return false;
            }
            land.far = numbers[0];
            return true;
        }
    }

    /** Columns as they were, the latest on top. */
    private static final class Pile {
        private final Column[] columns;
        int held;

        Pile(int most) {
            columns = new Column[Math.max(1, most)];
            for (int c = 0; c < columns.length; c++) {
                columns[c] = new Column();
            }
        }

        /** Puts a copy on top; the lowest falls out where the pile is full. */
        void put(Column column) {
            if (held >= columns.length) {
                dropLowest();
            }
            columns[held].copyFrom(column);
            held++;
        }

        /** The caller has looked that held is not 0. */
        void takeInto(Column column) {
            held--;
            column.copyFrom(columns[held]);
        }

        private void dropLowest() {
            Column lowest = columns[0];
            for (int c = 1; c < columns.length; c++) {
                columns[c - 1] = columns[c];
            }
            // its object is used again on top
            columns[columns.length - 1] = lowest;
            held = columns.length - 1;
        }
    }

    /** What is SEEN. */
    private static final class Sight {
        private final int[] whose = new int[MOST_SEEN];
        private final int[] when = new int[MOST_SEEN];
        private final int[] way = new int[MOST_SEEN];
        int held;

        boolean add(int i, int t, int faced) {
            if (held >= MOST_SEEN) {
                return false;
            }
            whose[held] = i;
            when[held] = t;
            way[held] = faced;
            held++;
            return true;
        }

        /** Whether man i, were his home at the cell, would look as all that is seen of him says. */
        boolean fits(int i, int spot, int cell, Row row) {
            int at = spot;
            for (int o = 0; o < row.length; o++) {
                // a plain man turns at every halt, so which one it is does not matter
                at = Ways.ordered(at, row.turn[o], row.steps[o], cell, Ways.PLAIN, 0);
                if (!allows(i, o + 1, Ways.lookOf(at))) {
                    return false;
                }
            }
            return true;
        }

        private boolean allows(int i, int t, int looks) {
            for (int s = 0; s < held; s++) {
                if (whose[s] == i && when[s] == t && way[s] != looks) {
                    return false;
                }
            }
            return true;
        }
    }

    /** Looks for the fewest orders that bring one man to a cell. */
    private static final class Guide {
        final int[] found = new int[MOST_BRINGING];
        private int goal;
        private int pull;
        private int kind;

        void setOut(int goalCell, int pullCell, int kindOfBoots) {
            goal = goalCell;
            pull = pullCell;
            kind = kindOfBoots;
        }

        int fewestOrders(int spot, int halts) {
            for (int orders = 0; orders <= MOST_BRINGING; orders++) {
                if (leads(spot, halts, 0, orders)) {
                    return orders;
                }
            }
            return NONE;
        }

        /** Whether he can be at the goal behind orders of them, done of which are given. */
        private boolean leads(int spot, int halts, int done, int orders) {
            int remaining = orders - done;
            if (remaining <= 0 || done >= MOST_BRINGING) {
                return Ways.cellOf(spot) == goal;
            }
            // an order brings nobody farther than its steps, so most rows need not be tried
            if (Ways.apart(Ways.cellOf(spot), goal) > LONGEST_BRINGING * remaining) {
                return false;
            }
            for (int r = 0; r < WAYS; r++) {
                for (int n = 1; n <= LONGEST_BRINGING; n++) {
                    int next = Ways.ordered(spot, r, n, pull, kind, halts + 1);
                    if (leads(next, halts + 1, done + 1, orders)) {
                        found[done] = 10 * r + n;
                        return true;
                    }
                }
            }
            return false;
        }
    }

    /** Deals the right boots anew. */
    private static final class Dealer {
        final int[] best = new int[MOST_MEN];
        int most;
        private final int[] gets = new int[MOST_MEN];

        void deal(Land land, Column column) {
            most = -1;
            dealTo(0, 0, 0, land, column);
        }

        /** Goes through the ways in their order, so that only a better one takes a best one's place. */
        private void dealTo(int i, int taken, int straight, Land land, Column column) {
            if (i >= land.men || i >= MOST_MEN) {
                if (straight > most) {
                    most = straight;
                    System.arraycopy(gets, 0, best, 0, MOST_MEN);
                }
                return;
            }
            for (int giver = 0; giver < land.men; giver++) {
                if ((taken >> giver & 1) == 0) {
                    gets[i] = giver;
                    int goesStraight = asNumber(land.left[i] != column.right[giver]);
                    dealTo(i + 1, taken | 1 << giver, straight + goesStraight, land, column);
                }
            }
        }
    }
}
