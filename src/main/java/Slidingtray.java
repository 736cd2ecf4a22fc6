import java.util.Arrays;
import java.util.NoSuchElementException;

/** Trays of numbered tiles with one gap, which are brought in order by fewest or cheapest moves. */
public final class Slidingtray {
    public static final int NONE = -1;
    public static final int UP = 0, LEFT = 1, RIGHT = 2, DOWN = 3;
    public static final int NOTHING = 0, DISPLACED = 1, WAYS = 2, PAIRS = 3, PARTS = 4;

    // The answer of a search that would need more than its limit; NONE is taken by "no way".
    private static final int REFUSED = -2;

    private static final int DIRECTIONS = 4;
    private static final int LEAST_SIDE = 2;
    private static final int MOST_SIDE = 4;
    private static final int MOST_PLACES = 16;
    private static final int LEAST_OPEN = 3;
    private static final int MOST_WEIGHT = 9;
    private static final int FIRST_LIMIT = 500;
    private static final int MOST_LIMIT = 1000;
    private static final int HINT_LIMIT = 100;
    // The first state that is taken finds four at most; each other one three, as it came from the fourth.
    private static final int MOST_FOUND = 3 * MOST_LIMIT + 2;
    private static final int MOST_MIXED = 200;
    private static final int MOST_REMEMBERED = 200;
    private static final int MOST_STRIDE = 3;
    private static final int MACROS = 4;
    private static final int MACRO_MOVES = 8;
    private static final int MOST_TIMES = 20;
    private static final int IMAGES = 2;
    private static final int SMALL_TRAY = 6;
    private static final int SMALL_TRAY_STATES = 720;
    private static final int MOST_WAYS = 1000000;
    private static final int MOST_PARTS = 2;
    private static final int PART_TILES = 3;
    private static final int PART_TRAY = 9;
    private static final int PART_TABLE = PART_TRAY * PART_TRAY * PART_TRAY * PART_TRAY;

    private final Puzzle puzzle = new Puzzle();
    private final Lie lie = new Lie();
    private final Lie side = new Lie();
    private final Lie[] keptLies = new Lie[IMAGES];
    private final Aim[] keptAims = new Aim[IMAGES];
    private final boolean[] isKept = new boolean[IMAGES];
    private final int[][] macros = new int[MACROS][MACRO_MOVES];
    private final int[] macroLengths = new int[MACROS];
    private final int[] remembered = new int[MOST_REMEMBERED];
    private int rememberedNext;
    private int rememberedCount;
    private final BestFirst bestFirst = new BestFirst();
    private final Deepening deepening = new Deepening();
    private final Rings rings = new Rings();
    private final AllStates allStates = new AllStates();
    private final int[] way = new int[MOST_LIMIT];
    private int wayLength;
    private final int[] report = new int[3];
    private int limit = FIRST_LIMIT;

    public Slidingtray() {
        for (int image = 0; image < IMAGES; image++) {
            keptLies[image] = new Lie();
            keptAims[image] = new Aim();
        }
        begin(3, 3, 0);
    }

    // ---- trays

    public int tray(int rows, int columns, int walls) throws IllegalArgumentException {
        if (!Board.isTray(rows, columns, walls)) throw new IllegalArgumentException("no such tray");
        begin(rows, columns, walls);
        return tiles();
    }

    public int lay(long rank) throws IllegalArgumentException {
        if (rank < 0 || rank >= Lie.arrangements(puzzle.board.open)) {
            throw new IllegalArgumentException("no such rank");
        }
        lie.fromRank(rank, puzzle.board.open);
        forgetMoves();
        return gapCell();
    }

    public int mix(int seed, int many) throws IllegalArgumentException {
        if (many < 0 || many > MOST_MIXED) throw new IllegalArgumentException("many is out of range");
        int drawn = seed;
        for (int made = 0; made < many; made++) {
            int choices = puzzle.board.exits(lie.placeOf[0]);
            if (choices < 1) break;
            drawn = drawn * 1103515245 + 12345;
            lie.shift(puzzle.board, puzzle.board.exit(lie.placeOf[0], (drawn >>> 16) % choices));
        }
        forgetMoves();
        return gapCell();
    }

    public long setGoal() {
        puzzle.aim.aimAt(lie);
        forgetAim();
        return lie.toRank();
    }

    public boolean setFree(int tile, boolean isFree) throws IndexOutOfBoundsException {
        if (tile < 0 || tile > tiles()) throw new IndexOutOfBoundsException("no such tile");
        boolean wasFree = puzzle.aim.frees(tile);
        puzzle.aim.makeFree(tile, isFree);
        forgetAim();
        return wasFree;
    }

    public int setWeight(int tile, int weight) throws IndexOutOfBoundsException, IllegalArgumentException {
        if (tile < 1 || tile > tiles()) throw new IndexOutOfBoundsException("no such tile");
        if (weight < 1 || weight > MOST_WEIGHT) throw new IllegalArgumentException("weight is out of range");
        int before = puzzle.aim.weight[tile];
        puzzle.aim.weight[tile] = weight;
        forgetAim();
        return before;
    }

    public int setLimit(int limit) throws IllegalArgumentException {
        if (limit < 1 || limit > MOST_LIMIT) throw new IllegalArgumentException("limit is out of range");
        int before = this.limit;
        this.limit = limit;
        return before;
    }

    // ---- moves

    public int move(int direction, int many) throws IllegalArgumentException, IllegalStateException {
        if (!isDirection(direction) || many < 1 || many > MOST_STRIDE) {
            throw new IllegalArgumentException("direction or many is out of range");
        }
        if (!canStride(direction, many)) throw new IllegalStateException("the way is barred");
        int cost = 0;
        for (int made = 0; made < many; made++) {
            cost += puzzle.aim.weight[shiftGap(direction)];
        }
        return cost;
    }

    public int undo(int many) throws IllegalArgumentException {
        if (many < 1 || many > MOST_REMEMBERED) throw new IllegalArgumentException("many is out of range");
        int undone = Math.min(many, rememberedCount);
        for (int count = 0; count < undone; count++) {
            rememberedNext = (rememberedNext + MOST_REMEMBERED - 1) % MOST_REMEMBERED;
            lie.shift(puzzle.board, opposite(remembered[rememberedNext]));
        }
        rememberedCount -= undone;
        return undone;
    }

    public int setMacro(int macro, long moves) throws IndexOutOfBoundsException, IllegalArgumentException {
        if (!isMacro(macro)) throw new IndexOutOfBoundsException("no such macro");
        for (int index = 0; index < MACRO_MOVES; index++) {
            int letter = letterAt(moves, index);
            if (letter != 0 && directionOf(letter) == NONE) throw new IllegalArgumentException("no such move");
        }
        int length = 0;
        for (int index = 0; index < MACRO_MOVES; index++) {
            int direction = directionOf(letterAt(moves, index));
            if (direction == NONE) continue;
            macros[macro][length] = direction;
            length++;
        }
        macroLengths[macro] = length;
        return length;
    }

    public int play(int macro, int times)
            throws IndexOutOfBoundsException, IllegalArgumentException, NoSuchElementException {
        if (!isMacro(macro)) throw new IndexOutOfBoundsException("no such macro");
        if (times < 1 || times > MOST_TIMES) throw new IllegalArgumentException("times is out of range");
        int length = macroLengths[macro];
        if (length == 0) throw new NoSuchElementException("the macro has no moves");
        int made = 0;
        for (int time = 0; time < times; time++) {
            for (int index = 0; index < length; index++) {
                if (shiftGap(macros[macro][index]) == 0) return made;
                made++;
            }
        }
        return made;
    }

    public long keep(int image) throws IndexOutOfBoundsException {
        if (!isImage(image)) throw new IndexOutOfBoundsException("no such image");
        keptLies[image].copy(lie);
        keptAims[image].copy(puzzle.aim);
        isKept[image] = true;
        return lie.toRank();
    }

    public int restore(int image) throws IndexOutOfBoundsException, IllegalStateException {
        if (!isImage(image)) throw new IndexOutOfBoundsException("no such image");
        if (!isKept[image]) throw new IllegalStateException("the image was not kept");
        lie.copy(keptLies[image]);
        puzzle.aim.copy(keptAims[image]);
        forgetAim();
        forgetMoves();
        return gapCell();
    }

    // ---- questions

    public int tileAt(int cell) throws IndexOutOfBoundsException {
        if (cell < 0 || cell >= puzzle.board.cells) throw new IndexOutOfBoundsException("no such cell");
        int place = puzzle.board.placeAt[cell];
        return place == NONE ? NONE : lie.tileOn[place];
    }

    public long rank() {
        return lie.toRank();
    }

    public int inversions() {
        return lie.disorder();
    }

    public boolean reaches() throws IllegalStateException {
        if (puzzle.board.hasWalls() || puzzle.aim.leavesFree()) {
            throw new IllegalStateException("the tray has walls, or something is free");
        }
        // Each move changes the disorder of all pieces by an odd number, and the gap's way by one step.
        puzzle.aim.layOut(side);
        int steps = puzzle.board.stepsBetween(lie.placeOf[0], side.placeOf[0]);
        return (lie.disorder() + side.disorder() + steps) % 2 == 0;
    }

    public int estimate(int estimate) throws IllegalArgumentException {
        if (!isEstimate(estimate)) throw new IllegalArgumentException("no such estimate");
        return puzzle.guess(lie, estimate);
    }

    // ---- search

    public int solve(int estimate) throws IllegalArgumentException, IllegalStateException {
        if (!isEstimate(estimate)) throw new IllegalArgumentException("no such estimate");
        int cost = bestFirst.seek(puzzle, lie, estimate, limit);
        if (cost == REFUSED) throw new IllegalStateException("more states than the limit tells");
        wayLength = bestFirst.copyWay(way);
        tell(bestFirst.taken, 0, wayLength);
        return cost;
    }

    public int deepen(int estimate) throws IllegalArgumentException, IllegalStateException {
        if (!isEstimate(estimate)) throw new IllegalArgumentException("no such estimate");
        int cost = deepening.seek(puzzle, lie, estimate, limit);
        if (cost == REFUSED) throw new IllegalStateException("more arrangements than the limit tells");
        wayLength = deepening.copyWay(way);
        tell(deepening.comeTo, deepening.rounds, wayLength);
        return cost;
    }

    public int both() throws IllegalStateException {
        if (puzzle.aim.leavesFree()) throw new IllegalStateException("something is free");
        int moves = rings.seek(puzzle, lie, limit);
        if (moves == REFUSED) throw new IllegalStateException("more arrangements than the limit tells");
        tell(rings.counted, rings.rings, 0);
        return moves;
    }

    public int searched(int what) throws IllegalArgumentException {
        if (what < 0 || what >= report.length) throw new IllegalArgumentException("what is out of range");
        return report[what];
    }

    public int wayAt(int index) throws NoSuchElementException {
        if (index < 0 || index >= wayLength) throw new NoSuchElementException("no such move");
        return way[index];
    }

    public int hint() throws IllegalStateException {
        int cost = bestFirst.seek(puzzle, lie, PAIRS, HINT_LIMIT);
        if (cost == REFUSED) throw new IllegalStateException("more states than a hint may take");
        if (cost == NONE || cost == 0) return NONE;
        for (int direction = UP; direction <= DOWN; direction++) {
            side.copy(lie);
            int tile = side.shift(puzzle.board, direction);
            if (tile == 0) continue;
            int rest = bestFirst.seek(puzzle, side, PAIRS, HINT_LIMIT);
            if (rest == REFUSED) throw new IllegalStateException("more states than a hint may take");
            if (rest + puzzle.aim.weight[tile] == cost) return direction;
        }
        return NONE;
    }

    // ---- all states

    public int far(int what) throws IllegalArgumentException, IllegalStateException {
        if (what < 0 || what > 5) throw new IllegalArgumentException("what is out of range");
        if (puzzle.board.open > SMALL_TRAY) throw new IllegalStateException("the tray is too large");
        allStates.look(puzzle);
        switch (what) {
            case 0: return allStates.known;
            case 1: return allStates.greatest;
            case 2: return allStates.farthest;
            case 3: return allStates.leastRankWith(allStates.greatest, false);
            case 4: return allStates.costAt(lie.toRank());
            default: return allStates.waysAt(lie.toRank());
        }
    }

    public int onlyWay(int cost) throws IllegalArgumentException, IllegalStateException {
        if (cost < 0) throw new IllegalArgumentException("cost is below 0");
        if (puzzle.board.open > SMALL_TRAY) throw new IllegalStateException("the tray is too large");
        allStates.look(puzzle);
        return allStates.leastRankWith(cost, true);
    }

    public boolean isFair(int estimate) throws IllegalArgumentException, IllegalStateException {
        if (!isEstimate(estimate)) throw new IllegalArgumentException("no such estimate");
        if (puzzle.board.open > SMALL_TRAY) throw new IllegalStateException("the tray is too large");
        allStates.look(puzzle);
        return allStates.agreesWith(puzzle, estimate);
    }

    // ---- parts

    public int part(int tiles) throws IllegalArgumentException, IllegalStateException {
        if (tiles == 0 || (tiles & ~puzzle.boundTiles()) != 0 || Integer.bitCount(tiles) > PART_TILES) {
            throw new IllegalArgumentException("no set of tiles for a part");
        }
        if (!puzzle.hasRoomFor(tiles)) throw new IllegalStateException("no room for this part");
        return puzzle.addPart(tiles);
    }

    // ---- measures

    public double meanWeight() {
        int sum = 0;
        for (int tile = 1; tile <= tiles(); tile++) {
            sum += puzzle.aim.weight[tile];
        }
        return (double) sum / (double) tiles();
    }

    public float settled() {
        int bound = 0;
        int home = 0;
        for (int tile = 1; tile <= tiles(); tile++) {
            if (puzzle.aim.frees(tile)) continue;
            bound++;
            if (puzzle.aim.isHome(lie, tile)) home++;
        }
        return bound == 0 ? 0.0f : (float) home / (float) bound;
    }

    public int errors() {
        int wrong = 0;
        side.fromRank(lie.toRank(), lie.open);
        if (!side.isSame(lie)) wrong++;
        for (int direction = UP; direction <= DOWN; direction++) {
            wrong += moveErrors(direction);
        }
        if (lie.open > SMALL_TRAY) return wrong;
        allStates.look(puzzle);
        int cost = allStates.costAt(lie.toRank());
        int best = bestFirst.seek(puzzle, lie, PAIRS, limit);
        int deep = deepening.seek(puzzle, lie, PAIRS, limit);
        if (best != REFUSED && best != cost) wrong++;
        if (deep != REFUSED && deep != cost) wrong++;
        return wrong;
    }

    // ---- what the calls share

    private void begin(int rows, int columns, int walls) {
        puzzle.board.set(rows, columns, walls);
        lie.order(puzzle.board.open);
        puzzle.aim.order(lie);
        for (int image = 0; image < IMAGES; image++) {
            isKept[image] = false;
        }
        Arrays.fill(macroLengths, 0);
        allStates.forgetTray();
        forgetAim();
        forgetMoves();
        wayLength = 0;
        tell(0, 0, 0);
    }

    private void forgetAim() {
        puzzle.dropParts();
        allStates.forgetCosts();
    }

    private void forgetMoves() {
        rememberedCount = 0;
        rememberedNext = 0;
    }

    private void tell(int states, int rounds, int moves) {
        report[0] = states;
        report[1] = rounds;
        report[2] = moves;
    }

    private int tiles() {
        return puzzle.board.open - 1;
    }

    private int gapCell() {
        return puzzle.board.cellOf[lie.placeOf[0]];
    }

    private static boolean isDirection(int direction) {
        return direction >= UP && direction <= DOWN;
    }

    private static int opposite(int direction) {
        return DOWN - direction;
    }

    private static boolean isMacro(int macro) {
        return macro >= 0 && macro < MACROS;
    }

    private static boolean isImage(int image) {
        return image >= 0 && image < IMAGES;
    }

    private static boolean isEstimate(int estimate) {
        return estimate >= NOTHING && estimate <= PARTS;
    }

    private boolean canStride(int direction, int many) {
        int place = lie.placeOf[0];
        for (int made = 0; made < many && place != NONE; made++) {
            place = puzzle.board.besideOf(place, direction);
        }
        return place != NONE;
    }

    /** Moves the gap and remembers it; returns the tile, 0 where it can't be done. */
    private int shiftGap(int direction) {
        int tile = lie.shift(puzzle.board, direction);
        if (tile == 0) return 0;
        remembered[rememberedNext] = direction;
        rememberedNext = (rememberedNext + 1) % MOST_REMEMBERED;
        if (rememberedCount < MOST_REMEMBERED) rememberedCount++;
        return tile;
    }

    private static int letterAt(long moves, int index) {
        return (int) (moves >>> 8 * (MACRO_MOVES - 1 - index)) & 255;
    }

    private static int directionOf(int letter) {
        switch (letter) {
            case 'u': return UP;
            case 'l': return LEFT;
            case 'r': return RIGHT;
            case 'd': return DOWN;
            default: return NONE;
        }
    }

    private int moveErrors(int direction) {
        side.copy(lie);
        int tile = side.shift(puzzle.board, direction);
        if (tile == 0) return 0;
        int wrong = 0;
        for (int kind = NOTHING; kind <= PARTS; kind++) {
            if (puzzle.guess(lie, kind) - puzzle.guess(side, kind) > puzzle.aim.weight[tile]) wrong++;
        }
        side.shift(puzzle.board, opposite(direction));
        if (!side.isSame(lie)) wrong++;
        return wrong;
    }

    /** The cells of a tray. Its open cells bear numbers of their own, the places, in the order of the cells. */
    static final class Board {
        private int rows;
        private int columns;
        int cells;
        int open;
        final int[] placeAt = new int[MOST_PLACES];
        final int[] cellOf = new int[MOST_PLACES];
        private final int[] beside = new int[MOST_PLACES * DIRECTIONS];
        private final int[] steps = new int[MOST_PLACES * MOST_PLACES];
        // The rows are the lines 0 to 3, the columns the lines 4 to 7; one with a wall has the length 0.
        final int[] lineLengths = new int[2 * MOST_SIDE];
        private final int[] linePlaces = new int[2 * MOST_SIDE * MOST_SIDE];
        private final int[] onLine = new int[2 * MOST_SIDE * MOST_PLACES];

        static boolean isTray(int rows, int columns, int walls) {
            if (rows < LEAST_SIDE || rows > MOST_SIDE) return false;
            if (columns < LEAST_SIDE || columns > MOST_SIDE) return false;
            int all = (1 << rows * columns) - 1;
            if ((walls & ~all) != 0) return false;
            int open = all & ~walls;
            return Integer.bitCount(open) >= LEAST_OPEN && isConnected(rows, columns, open);
        }

        private static boolean isConnected(int rows, int columns, int open) {
            int firstColumn = 0;
            for (int row = 0; row < rows; row++) {
                firstColumn |= 1 << row * columns;
            }
            int lastColumn = firstColumn << columns - 1;
            int reached = open & -open;
            for (int step = 0; step < MOST_PLACES; step++) {
                int aside = (reached & ~lastColumn) << 1 | (reached & ~firstColumn) >>> 1;
                reached |= (aside | reached << columns | reached >>> columns) & open;
            }
            return reached == open;
        }

        void set(int rows, int columns, int walls) {
            this.rows = rows;
            this.columns = columns;
            cells = rows * columns;
            open = 0;
            for (int cell = 0; cell < cells; cell++) {
                boolean isWall = (walls >> cell & 1) == 1;
                placeAt[cell] = isWall ? NONE : open;
                if (isWall) continue;
                cellOf[open] = cell;
                open++;
            }
            link();
            measure();
            drawLines();
        }

        private void link() {
            for (int row = 0; row < rows; row++) {
                for (int column = 0; column < columns; column++) {
                    int place = placeOn(row, column);
                    if (place == NONE) continue;
                    beside[place * DIRECTIONS + UP] = placeOn(row - 1, column);
                    beside[place * DIRECTIONS + LEFT] = placeOn(row, column - 1);
                    beside[place * DIRECTIONS + RIGHT] = placeOn(row, column + 1);
                    beside[place * DIRECTIONS + DOWN] = placeOn(row + 1, column);
                }
            }
        }

        private int placeOn(int row, int column) {
            if (row < 0 || row >= rows || column < 0 || column >= columns) return NONE;
            return placeAt[row * columns + column];
        }

        private void measure() {
            for (int from = 0; from < open; from++) {
                for (int to = 0; to < open; to++) {
                    // More than any way between two places takes.
                    steps[from * MOST_PLACES + to] = from == to ? 0 : MOST_PLACES;
                }
                for (int direction = UP; direction <= DOWN; direction++) {
                    int next = besideOf(from, direction);
                    if (next != NONE) steps[from * MOST_PLACES + next] = 1;
                }
            }
            for (int over = 0; over < open; over++) {
                for (int from = 0; from < open; from++) {
                    shortenOver(from, over);
                }
            }
        }

        private void shortenOver(int from, int over) {
            int first = stepsBetween(from, over);
            for (int to = 0; to < open; to++) {
                int sum = first + stepsBetween(over, to);
                if (sum < stepsBetween(from, to)) steps[from * MOST_PLACES + to] = sum;
            }
        }

        private void drawLines() {
            Arrays.fill(onLine, NONE);
            for (int index = 0; index < MOST_SIDE; index++) {
                drawLine(index, index * columns, 1, index < rows ? columns : 0);
                drawLine(MOST_SIDE + index, index, columns, index < columns ? rows : 0);
            }
        }

        private void drawLine(int line, int first, int stride, int length) {
            lineLengths[line] = 0;
            for (int index = 0; index < length; index++) {
                if (placeAt[first + index * stride] == NONE) return;
            }
            for (int index = 0; index < length; index++) {
                int place = placeAt[first + index * stride];
                linePlaces[line * MOST_SIDE + index] = place;
                onLine[line * MOST_PLACES + place] = index;
            }
            lineLengths[line] = length;
        }

        boolean hasWalls() {
            return open < cells;
        }

        int besideOf(int place, int direction) {
            return beside[place * DIRECTIONS + direction];
        }

        int stepsBetween(int from, int to) {
            return steps[from * MOST_PLACES + to];
        }

        int linePlace(int line, int index) {
            return linePlaces[line * MOST_SIDE + index];
        }

        /** Where on a line without walls a place is, from 0; NONE if it is not on it. */
        int indexOn(int line, int place) {
            return onLine[line * MOST_PLACES + place];
        }

        int exits(int place) {
            int count = 0;
            for (int direction = UP; direction <= DOWN; direction++) {
                if (besideOf(place, direction) != NONE) count++;
            }
            return count;
        }

        /** The direction of a move from a place: the one with an index among those that can be made. */
        int exit(int place, int index) {
            int count = 0;
            for (int direction = UP; direction < DOWN; direction++) {
                if (besideOf(place, direction) == NONE) continue;
                if (count == index) return direction;
                count++;
            }
            return DOWN;
        }
    }

    /** An arrangement: what lies on each place, and on which place each tile lies, the gap as tile 0. */
    static final class Lie {
        final int[] tileOn = new int[MOST_PLACES];
        final int[] placeOf = new int[MOST_PLACES];
        int open;
        // Four bits for each place, the first place highest, the gap as the greatest tile: then these
        // numbers, read without a sign, are ordered as the ranks are.
        long packed;

        static long arrangements(int open) {
            long count = 1;
            for (int places = 2; places <= open; places++) {
                count *= places;
            }
            return count;
        }

        private static int bitsAt(int place) {
            return 4 * (MOST_PLACES - 1 - place);
        }

        private int valueOf(int tile) {
            return tile == 0 ? open - 1 : tile - 1;
        }

        private int tileOf(int value) {
            return value == open - 1 ? 0 : value + 1;
        }

        void order(int places) {
            open = places;
            for (int place = 0; place < open; place++) {
                put(tileOf(place), place);
            }
            pack();
        }

        void put(int tile, int place) {
            tileOn[place] = tile;
            placeOf[tile] = place;
        }

        void pack() {
            packed = 0;
            for (int place = 0; place < open; place++) {
                packed |= (long) valueOf(tileOn[place]) << bitsAt(place);
            }
        }

        void unpack(long packed, int places) {
            open = places;
            this.packed = packed;
            for (int place = 0; place < open; place++) {
                put(tileOf((int) (packed >>> bitsAt(place)) & MOST_PLACES - 1), place);
            }
        }

        void copy(Lie other) {
            open = other.open;
            packed = other.packed;
            System.arraycopy(other.tileOn, 0, tileOn, 0, MOST_PLACES);
            System.arraycopy(other.placeOf, 0, placeOf, 0, MOST_PLACES);
        }

        boolean isSame(Lie other) {
            if (open != other.open || packed != other.packed) return false;
            for (int place = 0; place < open; place++) {
                int tile = tileOn[place];
                if (tile != other.tileOn[place] || placeOf[tile] != other.placeOf[tile]) return false;
            }
            return true;
        }

        /** Moves the gap; returns the tile that made room for it, 0 where the move can't be made. */
        int shift(Board board, int direction) {
            int gap = placeOf[0];
            int place = board.besideOf(gap, direction);
            if (place == NONE) return 0;
            int tile = tileOn[place];
            put(tile, gap);
            put(0, place);
            long change = valueOf(tile) ^ valueOf(0);
            packed ^= change << bitsAt(gap) ^ change << bitsAt(place);
            return tile;
        }

        long toRank() {
            long rank = 0;
            int left = (1 << open) - 1;
            for (int place = 0; place < open; place++) {
                int bit = 1 << valueOf(tileOn[place]);
                left &= ~bit;
                rank = rank * (open - place) + Integer.bitCount(left & bit - 1);
            }
            return rank;
        }

        void fromRank(long rank, int places) {
            open = places;
            long rest = rank;
            for (int place = open - 1; place >= 0; place--) {
                int choices = open - place;
                // For now, how many lesser values will be left for later places.
                tileOn[place] = (int) (rest % choices);
                rest /= choices;
            }
            int left = (1 << open) - 1;
            for (int place = 0; place < open; place++) {
                int bit = bitWithIndex(left, tileOn[place]);
                left &= ~bit;
                put(tileOf(Integer.bitCount(bit - 1)), place);
            }
            pack();
        }

        private static int bitWithIndex(int bits, int index) {
            int rest = bits;
            for (int skipped = 0; skipped < index; skipped++) {
                rest &= rest - 1;
            }
            return rest & -rest;
        }

        int disorder() {
            int pairs = 0;
            int before = 0;
            for (int place = 0; place < open; place++) {
                int value = valueOf(tileOn[place]);
                pairs += Integer.bitCount(before >>> value);
                before |= 1 << value;
            }
            return pairs;
        }
    }

    /** What is aimed at: the place of each tile in the goal, what is free, and what the tiles weigh. */
    static final class Aim {
        final int[] goal = new int[MOST_PLACES];
        final int[] weight = new int[MOST_PLACES];
        private int open;
        private int freeBits;

        void order(Lie lie) {
            aimAt(lie);
            Arrays.fill(weight, 1);
            freeBits = 0;
        }

        void aimAt(Lie lie) {
            open = lie.open;
            System.arraycopy(lie.placeOf, 0, goal, 0, MOST_PLACES);
        }

        void copy(Aim other) {
            open = other.open;
            freeBits = other.freeBits;
            System.arraycopy(other.goal, 0, goal, 0, MOST_PLACES);
            System.arraycopy(other.weight, 0, weight, 0, MOST_PLACES);
        }

        void layOut(Lie lie) {
            lie.open = open;
            for (int tile = 0; tile < open; tile++) {
                lie.put(tile, goal[tile]);
            }
            lie.pack();
        }

        boolean frees(int tile) {
            return (freeBits >> tile & 1) == 1;
        }

        void makeFree(int tile, boolean isFree) {
            freeBits = isFree ? freeBits | 1 << tile : freeBits & ~(1 << tile);
        }

        boolean leavesFree() {
            return freeBits != 0;
        }

        boolean isHome(Lie lie, int tile) {
            return lie.placeOf[tile] == goal[tile];
        }

        boolean isReachedBy(Lie lie) {
            for (int tile = 0; tile < open; tile++) {
                if (!frees(tile) && !isHome(lie, tile)) return false;
            }
            return true;
        }
    }

    /** A tray with an aim, and the estimates of what it takes to reach it. */
    static final class Puzzle {
        final Board board = new Board();
        final Aim aim = new Aim();
        final Agenda agenda = new Agenda(PART_TABLE);
        private final Part[] parts = new Part[MOST_PARTS];
        private int partCount;
        // The tiles of one line that may be in each other's way: what they weigh, where on the line they
        // belong, and with which of those ahead of them (as bits) they clash.
        private final int[] stakes = new int[MOST_SIDE];
        private final int[] targets = new int[MOST_SIDE];
        private final int[] clashes = new int[MOST_SIDE];

        Puzzle() {
            for (int index = 0; index < MOST_PARTS; index++) {
                parts[index] = new Part();
            }
        }

        void dropParts() {
            partCount = 0;
        }

        int boundTiles() {
            int bits = 0;
            for (int tile = 1; tile < board.open; tile++) {
                if (!aim.frees(tile)) bits |= 1 << tile;
            }
            return bits;
        }

        boolean hasRoomFor(int tiles) {
            if (partCount >= MOST_PARTS || board.open > PART_TRAY) return false;
            for (int index = 0; index < partCount; index++) {
                if ((parts[index].bits & tiles) != 0) return false;
            }
            return true;
        }

        int addPart(int tiles) {
            Part part = parts[partCount];
            partCount++;
            part.choose(tiles, board.open);
            return part.fill(board, aim, agenda);
        }

        int guess(Lie lie, int kind) {
            switch (kind) {
                case DISPLACED: return displaced(lie);
                case WAYS: return distances(lie);
                case PAIRS: return distances(lie) + 2 * detours(lie);
                case PARTS: return inParts(lie);
                default: return 0;
            }
        }

        private int displaced(Lie lie) {
            int sum = 0;
            for (int tile = 1; tile < board.open; tile++) {
                if (!aim.frees(tile) && !aim.isHome(lie, tile)) sum += aim.weight[tile];
            }
            return sum;
        }

        private int distances(Lie lie) {
            int sum = 0;
            for (int tile = 1; tile < board.open; tile++) {
                if (aim.frees(tile)) continue;
                sum += aim.weight[tile] * board.stepsBetween(lie.placeOf[tile], aim.goal[tile]);
            }
            return sum;
        }

        private int inParts(Lie lie) {
            int sum = 0;
            for (int index = 0; index < partCount; index++) {
                sum += parts[index].costOf(lie);
            }
            return sum;
        }

        private int detours(Lie lie) {
            int sum = 0;
            for (int line = 0; line < 2 * MOST_SIDE; line++) {
                int count = gather(lie, line);
                if (count > 1) sum += leastStake(count);
            }
            return sum;
        }

        /** Gathers the tiles that lie on a line and belong on it; returns how many, 0 if none clash. */
        private int gather(Lie lie, int line) {
            int count = 0;
            boolean hasClash = false;
            for (int index = 0; index < board.lineLengths[line]; index++) {
                int tile = lie.tileOn[board.linePlace(line, index)];
                if (tile == 0 || aim.frees(tile)) continue;
                int target = board.indexOn(line, aim.goal[tile]);
                if (target == NONE) continue;
                stakes[count] = aim.weight[tile];
                targets[count] = target;
                clashes[count] = 0;
                for (int other = 0; other < count; other++) {
                    if (targets[other] < target) continue;
                    hasClash = true;
                    clashes[count] |= 1 << other;
                }
                count++;
            }
            return hasClash ? count : 0;
        }

        /** The least that tiles of the line weigh without which no two of the others clash. */
        private int leastStake(int count) {
            int least = MOST_SIDE * MOST_WEIGHT;
            for (int stay = 0; stay < 1 << count; stay++) {
                int sum = 0;
                boolean hasClash = false;
                for (int index = 0; index < count; index++) {
                    boolean stays = (stay >> index & 1) == 1;
                    hasClash = hasClash || stays && (clashes[index] & stay) != 0;
                    if (!stays) sum += stakes[index];
                }
                if (!hasClash) least = Math.min(least, sum);
            }
            return least;
        }
    }

    /** The table of a part: by the places of the gap and of its tiles, what its tiles' moves cost at least. */
    static final class Part {
        int bits;
        private int open;
        private int size;
        private int count;
        private final int[] tiles = new int[PART_TILES];
        private final int[] table = new int[PART_TABLE];
        private final int[] places = new int[PART_TILES];

        void choose(int bits, int open) {
            this.bits = bits;
            this.open = open;
            count = 0;
            size = PART_TRAY;
            for (int tile = 1; tile < open && count < PART_TILES; tile++) {
                if ((bits >> tile & 1) == 0) continue;
                tiles[count] = tile;
                count++;
                size *= PART_TRAY;
            }
        }

        int costOf(Lie lie) {
            int entry = lie.placeOf[0];
            for (int index = 0; index < count; index++) {
                entry = entry * PART_TRAY + lie.placeOf[tiles[index]];
            }
            return table[entry] == NONE ? 0 : table[entry];
        }

        /** Goes back from all entries with the tiles at home; returns how many entries have a cost. */
        int fill(Board board, Aim aim, Agenda agenda) {
            Arrays.fill(table, NONE);
            agenda.clear();
            for (int gap = 0; gap < open; gap++) {
                if (!sendHome(aim, gap)) continue;
                offer(agenda, entryFor(gap), 0);
            }
            for (int taken = 0; taken < size; taken++) {
                int entry = agenda.take();
                if (entry == NONE) return taken;
                spread(board, aim, agenda, entry);
            }
            return size;
        }

        /** Puts the tiles on their places of the goal; tells whether the gap can be where it is wanted then. */
        private boolean sendHome(Aim aim, int gap) {
            for (int index = 0; index < count; index++) {
                places[index] = aim.goal[tiles[index]];
                if (places[index] == gap) return false;
            }
            return true;
        }

        private int entryFor(int gap) {
            int entry = gap;
            for (int index = 0; index < count; index++) {
                entry = entry * PART_TRAY + places[index];
            }
            return entry;
        }

        private int openEntry(int entry) {
            int rest = entry;
            for (int index = count - 1; index >= 0; index--) {
                places[index] = rest % PART_TRAY;
                rest /= PART_TRAY;
            }
            return rest;
        }

        private void spread(Board board, Aim aim, Agenda agenda, int entry) {
            int gap = openEntry(entry);
            for (int direction = UP; direction <= DOWN; direction++) {
                int next = board.besideOf(gap, direction);
                if (next == NONE) continue;
                int moved = indexOn(next);
                if (moved == NONE) {
                    offer(agenda, entryFor(next), table[entry]);
                } else {
                    places[moved] = gap;
                    offer(agenda, entryFor(next), table[entry] + aim.weight[tiles[moved]]);
                    places[moved] = next;
                }
            }
        }

        private int indexOn(int place) {
            for (int index = 0; index < count; index++) {
                if (places[index] == place) return index;
            }
            return NONE;
        }

        private void offer(Agenda agenda, int entry, int cost) {
            if (table[entry] != NONE && table[entry] <= cost) return;
            table[entry] = cost;
            agenda.put(entry, cost, entry);
        }
    }

    /** Items that wait, the one with the least key first; of several that with the least second key. */
    static final class Agenda {
        private final long[] keys;
        private final long[] seconds;
        private final int[] heap;
        private final int[] spots;
        private int count;

        Agenda(int most) {
            keys = new long[most];
            seconds = new long[most];
            heap = new int[most];
            spots = new int[most];
            Arrays.fill(spots, NONE);
        }

        void clear() {
            for (int spot = 0; spot < count; spot++) {
                spots[heap[spot]] = NONE;
            }
            count = 0;
        }

        /** Puts an item in, or forward: the keys of one that waits already may only become less. */
        void put(int item, long key, long second) {
            keys[item] = key;
            seconds[item] = second;
            int spot = spots[item];
            if (spot == NONE) {
                spot = count;
                count++;
            }
            while (spot > 0 && isBefore(item, heap[(spot - 1) / 2])) {
                place(heap[(spot - 1) / 2], spot);
                spot = (spot - 1) / 2;
            }
            place(item, spot);
        }

        /** Takes the first item out; NONE if none waits. */
        int take() {
            if (count == 0) return NONE;
            int first = heap[0];
            spots[first] = NONE;
            count--;
            if (count > 0) sink(heap[count]);
            return first;
        }

        private boolean isBefore(int item, int other) {
            if (keys[item] != keys[other]) return keys[item] < keys[other];
            return seconds[item] < seconds[other];
        }

        private void place(int item, int spot) {
            heap[spot] = item;
            spots[item] = spot;
        }

        private void sink(int item) {
            int spot = 0;
            for (int child = 1; child < count; child = 2 * spot + 1) {
                if (child + 1 < count && isBefore(heap[child + 1], heap[child])) child++;
                if (!isBefore(heap[child], item)) break;
                place(heap[child], spot);
                spot = child;
            }
            place(item, spot);
        }
    }

    /** The arrangements that a search has found, numbered from 0 as they came. */
    static final class Found {
        final long[] packed;
        int count;
        private final int[] homes;
        private final int[] slots;
        private final int slotBits;

        /** The slots must be more than the arrangements, so that a free one is always come to. */
        Found(int most, int slotBits) {
            packed = new long[most];
            homes = new int[most];
            slots = new int[1 << slotBits];
            Arrays.fill(slots, NONE);
            this.slotBits = slotBits;
        }

        void clear() {
            for (int index = 0; index < count; index++) {
                slots[homes[index]] = NONE;
            }
            count = 0;
        }

        /** The number of an arrangement, a new one if it has none yet; NONE if there is no room for it. */
        int enter(long arrangement) {
            int slot = (int) (arrangement * 0x9E3779B97F4A7C15L >>> 64 - slotBits);
            for (int tried = 0; tried < slots.length; tried++) {
                int index = slots[slot];
                if (index == NONE) return append(arrangement, slot);
                if (packed[index] == arrangement) return index;
                slot = slot + 1 & slots.length - 1;
            }
            return NONE;
        }

        private int append(long arrangement, int slot) {
            if (count == packed.length) return NONE;
            packed[count] = arrangement;
            homes[count] = slot;
            slots[slot] = count;
            count++;
            return count - 1;
        }
    }

    /** BEST FIRST. */
    static final class BestFirst {
        // With the sign turned, packed numbers are ordered as without one.
        private static final long SIGN = 1L << 63;

        int taken;
        private final Found found = new Found(MOST_FOUND, 13);
        private final int[] costs = new int[MOST_FOUND];
        private final int[] rests = new int[MOST_FOUND];
        private final int[] parents = new int[MOST_FOUND];
        private final int[] moves = new int[MOST_FOUND];
        private final Lie work = new Lie();
        private int last;

        /** The cost of the cheapest way; NONE without one; REFUSED if more states would have to be taken. */
        int seek(Puzzle puzzle, Lie start, int kind, int limit) {
            found.clear();
            puzzle.agenda.clear();
            taken = 0;
            last = NONE;
            work.copy(start);
            meet(puzzle, kind, NONE, NONE, 0);
            for (int count = 0; count < limit; count++) {
                int state = puzzle.agenda.take();
                if (state == NONE) return NONE;
                taken++;
                work.unpack(found.packed[state], start.open);
                if (puzzle.aim.isReachedBy(work)) {
                    last = state;
                    return costs[state];
                }
                spread(puzzle, kind, state);
            }
            return puzzle.agenda.take() == NONE ? NONE : REFUSED;
        }

        private void spread(Puzzle puzzle, int kind, int state) {
            for (int direction = UP; direction <= DOWN; direction++) {
                int tile = work.shift(puzzle.board, direction);
                if (tile == 0) continue;
                meet(puzzle, kind, state, direction, costs[state] + puzzle.aim.weight[tile]);
                work.shift(puzzle.board, opposite(direction));
            }
        }

        /** Finds the arrangement that is laid, by a move from a state, at a cost. */
        private void meet(Puzzle puzzle, int kind, int parent, int direction, int cost) {
            int before = found.count;
            int state = found.enter(work.packed);
            if (state == NONE) return;
            boolean isNew = found.count > before;
            if (!isNew && cost >= costs[state]) return;
            if (isNew) rests[state] = puzzle.guess(work, kind);
            costs[state] = cost;
            parents[state] = parent;
            moves[state] = direction;
            long key = (long) (cost + rests[state]) << 32 | rests[state];
            puzzle.agenda.put(state, key, work.packed ^ SIGN);
        }

        /** Copies the way that was found; returns how many moves it has. */
        int copyWay(int[] way) {
            if (last == NONE) return 0;
            int length = 0;
            for (int state = last; parents[state] != NONE && length < way.length; state = parents[state]) {
                length++;
            }
            int state = last;
            for (int index = length - 1; index >= 0; index--) {
                way[index] = moves[state];
                state = parents[state];
            }
            return length;
        }
    }

    /** DEEPENING, with the row of moves that is gone through held in arrays: it can be long. */
    static final class Deepening {
        // What a round can end with beside REFUSED and the next bound, which is 1 or more.
        private static final int CLOSED = -1;
        private static final int REACHED = 0;

        int comeTo;
        int rounds;
        private final int[] row = new int[MOST_LIMIT];
        private final int[] costs = new int[MOST_LIMIT + 1];
        private final int[] nexts = new int[MOST_LIMIT + 1];
        private final Lie work = new Lie();
        private int depth;
        private int least;

        /** The cost of the cheapest way; NONE without one; REFUSED if more had to be gone through. */
        int seek(Puzzle puzzle, Lie start, int kind, int limit) {
            comeTo = 0;
            rounds = 0;
            int bound = puzzle.guess(start, kind);
            for (int round = 0; round < limit; round++) {
                work.copy(start);
                depth = 0;
                rounds++;
                int end = goThrough(puzzle, kind, bound, limit);
                if (end == REACHED) return costs[depth];
                if (end == CLOSED) return NONE;
                if (end == REFUSED) return REFUSED;
                bound = end;
            }
            return REFUSED;
        }

        private int goThrough(Puzzle puzzle, int kind, int bound, int limit) {
            if (comeTo >= limit) return REFUSED;
            comeTo++;
            least = CLOSED;
            costs[0] = 0;
            nexts[0] = UP;
            if (puzzle.aim.isReachedBy(work)) return REACHED;
            // Each arrangement is looked at at most once for each direction, and once when it is left.
            for (int look = 0; look <= (DIRECTIONS + 1) * limit; look++) {
                int direction = nexts[depth];
                if (direction > DOWN) {
                    if (depth == 0) return least;
                    goBack(puzzle);
                    continue;
                }
                nexts[depth]++;
                if (depth > 0 && direction == opposite(row[depth - 1])) continue;
                int tile = work.shift(puzzle.board, direction);
                if (tile == 0) continue;
                if (comeTo >= limit) return REFUSED;
                comeTo++;
                goOn(direction, costs[depth] + puzzle.aim.weight[tile]);
                if (endsBy(bound, costs[depth] + puzzle.guess(work, kind))) goBack(puzzle);
                else if (puzzle.aim.isReachedBy(work)) return REACHED;
            }
            return REFUSED;
        }

        private void goOn(int direction, int cost) {
            row[depth] = direction;
            depth++;
            costs[depth] = cost;
            nexts[depth] = UP;
        }

        private void goBack(Puzzle puzzle) {
            depth--;
            work.shift(puzzle.board, opposite(row[depth]));
        }

        private boolean endsBy(int bound, int sum) {
            if (sum <= bound) return false;
            if (least == CLOSED || sum < least) least = sum;
            return true;
        }

        /** Copies the way that was found; returns how many moves it has: a round without a way ends where it began. */
        int copyWay(int[] way) {
            int length = Math.min(depth, way.length);
            System.arraycopy(row, 0, way, 0, length);
            return length;
        }
    }

    /** The search from both ends, by rings. */
    static final class Rings {
        private static final int ENDS = 2;

        int counted;
        int rings;
        private final Found found = new Found(MOST_LIMIT, 11);
        // From which ends an arrangement was found, as bits.
        private final int[] finders = new int[MOST_LIMIT];
        // The latest ring of each end: its arrangements bear numbers in a row, as none of them was found
        // before (but one that is found from the other end, too, and that ends the search).
        private final int[] froms = new int[ENDS];
        private final int[] tos = new int[ENDS];
        private final Lie work = new Lie();
        private boolean hasMet;

        /** The least number of moves; NONE without a way; REFUSED if more would have to be found. */
        int seek(Puzzle puzzle, Lie start, int limit) {
            found.clear();
            counted = 0;
            rings = 0;
            hasMet = false;
            for (int end = 0; end < ENDS; end++) {
                if (end == 0) work.copy(start);
                else puzzle.aim.layOut(work);
                froms[end] = found.count;
                if (!find(end, limit)) return REFUSED;
                tos[end] = found.count;
            }
            for (int turn = 0; turn < limit && !hasMet; turn++) {
                int before = counted;
                if (!grow(puzzle.board, turn % ENDS, limit)) return REFUSED;
                if (counted == before) return NONE;
                rings++;
            }
            return hasMet ? rings : REFUSED;
        }

        private boolean grow(Board board, int end, int limit) {
            int from = froms[end];
            int to = tos[end];
            froms[end] = found.count;
            for (int index = from; index < to; index++) {
                work.unpack(found.packed[index], work.open);
                for (int direction = UP; direction <= DOWN; direction++) {
                    if (work.shift(board, direction) == 0) continue;
                    if (!find(end, limit)) return false;
                    work.shift(board, opposite(direction));
                }
            }
            tos[end] = found.count;
            return true;
        }

        /** Finds the arrangement that is laid from an end; tells whether the limit allows it. */
        private boolean find(int end, int limit) {
            int before = found.count;
            int index = found.enter(work.packed);
            if (index == NONE) return false;
            if (found.count > before) finders[index] = 0;
            if ((finders[index] >> end & 1) == 1) return true;
            if (counted >= limit) return false;
            counted++;
            hasMet = hasMet || finders[index] != 0;
            finders[index] |= 1 << end;
            return true;
        }
    }

    /** All arrangements of a small tray, by their ranks, with what the cheapest ways from them cost. */
    static final class AllStates {
        int known;
        int greatest;
        int farthest;
        private int states;
        private boolean isMapped;
        private boolean isReckoned;
        private final long[] packed = new long[SMALL_TRAY_STATES];
        // For each arrangement and direction: the rank behind the move (NONE without one), and its tile.
        private final int[] nexts = new int[SMALL_TRAY_STATES * DIRECTIONS];
        private final int[] tiles = new int[SMALL_TRAY_STATES * DIRECTIONS];
        private final int[] costs = new int[SMALL_TRAY_STATES];
        private final int[] ways = new int[SMALL_TRAY_STATES];
        private final int[] guesses = new int[SMALL_TRAY_STATES];
        private final Lie work = new Lie();

        /** Forgets what stands on the tray alone; the costs must be forgotten, too. */
        void forgetTray() {
            isMapped = false;
        }

        void forgetCosts() {
            isReckoned = false;
        }

        /** Looks at all arrangements, if that was not done since the tray or the aim changed. */
        void look(Puzzle puzzle) {
            if (!isMapped) map(puzzle.board);
            isMapped = true;
            if (!isReckoned) reckon(puzzle);
            isReckoned = true;
        }

        private void map(Board board) {
            states = (int) Math.min(Lie.arrangements(board.open), SMALL_TRAY_STATES);
            for (int rank = 0; rank < states; rank++) {
                work.fromRank(rank, board.open);
                packed[rank] = work.packed;
                for (int direction = UP; direction <= DOWN; direction++) {
                    int tile = work.shift(board, direction);
                    tiles[rank * DIRECTIONS + direction] = tile;
                    nexts[rank * DIRECTIONS + direction] = tile == 0 ? NONE : (int) work.toRank();
                    if (tile != 0) work.shift(board, opposite(direction));
                }
            }
        }

        /** Goes back from all goals at once. */
        private void reckon(Puzzle puzzle) {
            puzzle.agenda.clear();
            for (int rank = 0; rank < states; rank++) {
                work.unpack(packed[rank], puzzle.board.open);
                boolean isGoal = puzzle.aim.isReachedBy(work);
                costs[rank] = isGoal ? 0 : NONE;
                ways[rank] = isGoal ? 1 : 0;
                if (isGoal) puzzle.agenda.put(rank, 0, rank);
            }
            known = 0;
            greatest = NONE;
            farthest = 0;
            for (int taken = 0; taken < states; taken++) {
                int rank = puzzle.agenda.take();
                if (rank == NONE) return;
                tally(costs[rank]);
                spread(puzzle, rank);
            }
        }

        /** Counts an arrangement: they are taken in the order of their costs. */
        private void tally(int cost) {
            known++;
            farthest = cost == greatest ? farthest + 1 : 1;
            greatest = cost;
        }

        private void spread(Puzzle puzzle, int rank) {
            for (int direction = UP; direction <= DOWN; direction++) {
                int next = nexts[rank * DIRECTIONS + direction];
                if (next == NONE) continue;
                int cost = costs[rank] + puzzle.aim.weight[tiles[rank * DIRECTIONS + direction]];
                if (cost == costs[next]) ways[next] = Math.min(MOST_WAYS, ways[next] + ways[rank]);
                if (costs[next] != NONE && costs[next] <= cost) continue;
                costs[next] = cost;
                ways[next] = ways[rank];
                puzzle.agenda.put(next, cost, next);
            }
        }

        int costAt(long rank) {
            return rank < 0 || rank >= states ? NONE : costs[(int) rank];
        }

        int waysAt(long rank) {
            return rank < 0 || rank >= states ? 0 : ways[(int) rank];
        }

        int leastRankWith(int cost, boolean isOnly) {
            for (int rank = 0; rank < states; rank++) {
                if (costs[rank] == cost && (!isOnly || ways[rank] == 1)) return rank;
            }
            return NONE;
        }

        boolean agreesWith(Puzzle puzzle, int kind) {
            for (int rank = 0; rank < states; rank++) {
                if (costs[rank] == NONE) continue;
                work.unpack(packed[rank], puzzle.board.open);
                guesses[rank] = puzzle.guess(work, kind);
                if (guesses[rank] > costs[rank]) return false;
            }
            for (int rank = 0; rank < states; rank++) {
                if (costs[rank] != NONE && fallsTooFar(puzzle.aim, rank)) return false;
            }
            return true;
        }

        private boolean fallsTooFar(Aim aim, int rank) {
            for (int direction = UP; direction <= DOWN; direction++) {
                int next = nexts[rank * DIRECTIONS + direction];
                if (next == NONE) continue;
                int cost = aim.weight[tiles[rank * DIRECTIONS + direction]];
                if (guesses[rank] - guesses[next] > cost) return true;
            }
            return false;
        }
    }
}
