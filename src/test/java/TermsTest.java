/** The sentences of the section Terms that name an edge, each with a test; the sentence stands ahead of it. */
public final class TermsTest {
    private static final Class<IllegalArgumentException> ARGUMENT = IllegalArgumentException.class;
    private static final Class<IllegalStateException> STATE = IllegalStateException.class;
    private static final int[] ROW_STEP = {-1, 0, 0, 1};
    private static final int[] COLUMN_STEP = {0, -1, 1, 0};

    public static void main(String[] args) {
        sides();
        openCells(2, 2);
        openCells(2, 3);
        openCells(3, 2);
        openCells(3, 3);
        openCells(2, 4);
        openCells(4, 4);
        numbersOfCells();
        goals();
        movesFromEachCell();
        movesOnLargeTrays();
        weights();
        ranks();
        displaced();
        ways();
        pairs();
        pairsThatAreNone();
        pairsByWeights();
        parts();
        bestFirst();
        cheaperLater();
        deepening();
        smallTrays();
        tables();
        Check.end();
    }

    private static Slidingtray of(int rows, int columns, int walls) {
        Slidingtray x = new Slidingtray();
        x.tray(rows, columns, walls);
        return x;
    }

    // ---- 1. Trays

    /** "A tray has 2 to 4 rows and 2 to 4 columns" */
    private static void sides() {
        int[] sides = {Integer.MIN_VALUE, -4, -3, -2, -1, 0, 1, 2, 3, 4, 5, 6, 16, 32, 34, 1 << 30, Integer.MAX_VALUE};
        for (int rows : sides) {
            for (int columns : sides) {
                Slidingtray x = new Slidingtray();
                boolean isTray = rows >= 2 && rows <= 4 && columns >= 2 && columns <= 4;
                String call = "2: tray(" + rows + ", " + columns + ", 0)";
                if (isTray) Check.same(call, x.tray(rows, columns, 0), rows * columns - 1);
                else Check.throwsIt(call, ARGUMENT, () -> x.tray(rows, columns, 0));
            }
        }
    }

    /** "they are at least 3, and connected": each set of walls of a tray. */
    private static void openCells(int rows, int columns) {
        int cells = rows * columns;
        Slidingtray x = new Slidingtray();
        for (int walls = 0; walls < 1 << cells; walls++) {
            if (walls % 500 == 0) x = new Slidingtray();
            int open = cells - Integer.bitCount(walls);
            int got;
            try {
                got = x.tray(rows, columns, walls);
            } catch (IllegalArgumentException e) {
                got = -1;
            }
            boolean isTray = open >= 3 && isConnected(rows, columns, walls);
            Check.same("2: tray(" + rows + ", " + columns + ", " + walls + ")", got, isTray ? open - 1 : -1);
        }
        // "walls has other cells than the tray"
        for (int bit = cells; bit < 32; bit++) {
            Slidingtray y = new Slidingtray();
            int walls = 1 << bit;
            Check.throwsIt("2: tray(" + rows + ", " + columns + ", " + walls + ")", ARGUMENT,
                    () -> y.tray(rows, columns, walls));
        }
    }

    private static boolean isConnected(int rows, int columns, int walls) {
        boolean[] reached = new boolean[rows * columns];
        for (int cell = 0; cell < rows * columns; cell++) {
            if ((walls >> cell & 1) == 1) continue;
            spread(rows, columns, walls, reached, cell / columns, cell % columns);
            break;
        }
        for (int cell = 0; cell < rows * columns; cell++) {
            if ((walls >> cell & 1) == 0 && !reached[cell]) return false;
        }
        return true;
    }

    private static void spread(int rows, int columns, int walls, boolean[] reached, int row, int column) {
        if (!isOpen(rows, columns, walls, row, column) || reached[row * columns + column]) return;
        reached[row * columns + column] = true;
        for (int direction = 0; direction < 4; direction++) {
            spread(rows, columns, walls, reached, row + ROW_STEP[direction], column + COLUMN_STEP[direction]);
        }
    }

    private static boolean isOpen(int rows, int columns, int walls, int row, int column) {
        if (row < 0 || row >= rows || column < 0 || column >= columns) return false;
        return (walls >> row * columns + column & 1) == 0;
    }

    /** "numbered row by row, from 0 on"; "the tiles in order on the open cells, the gap on the last one" */
    private static void numbersOfCells() {
        for (int walls = 0; walls < 512; walls++) {
            if (9 - Integer.bitCount(walls) < 3 || !isConnected(3, 3, walls)) continue;
            Slidingtray x = of(3, 3, walls);
            int last = 8 - Integer.bitCount(walls);
            int next = 1;
            for (int cell = 0; cell < 9; cell++) {
                int due = -1;
                if ((walls >> cell & 1) == 0) {
                    due = next > last ? 0 : next;
                    next++;
                }
                Check.same("15: tileAt(" + cell + ") with the walls " + walls, x.tileAt(cell), due);
            }
            Check.same("5: it is the goal at first", x.setGoal(), 0);
            Check.same("26: the cost from the goal", last + 1 > 6 ? 0 : x.far(4), 0);
        }
        Slidingtray x = of(2, 4, 0);
        Check.same("9: one row up is four cells back", x.move(0, 1), 1);
        Check.same("9: the gap is on cell 3", x.tileAt(3), 0);
        Check.same("9: tile 4 came down", x.tileAt(7), 4);
    }

    /** "An arrangement is a goal if all tiles, and the gap, that are not free lie as in the goal." */
    private static void goals() {
        Slidingtray x = of(2, 3, 0);
        x.setFree(1, true);
        // All that is not free lies as in the goal, but the gap.
        Lies.lay(x, 0, 2, 3, 4, 5, 1);
        x.setLimit(1000);
        Check.same("20: the gap is not free: no goal", x.solve(3) != 0, true);
        Check.same("26: the gap is not free: no goal", x.far(4) != 0, true);
        x.setFree(0, true);
        Check.same("20: the gap is free: a goal", x.solve(0), 0);
        Check.same("21: the gap is free: a goal", x.deepen(0), 0);
        Check.same("25: the gap is free: a goal", x.hint(), -1);
        Check.same("26: the gap is free: a goal", x.far(4), 0);
        Check.same("26: one way, the one without moves", x.far(5), 1);
        x.setFree(1, false);
        Check.same("20: tile 1 is not free: no goal", x.solve(3) != 0, true);
        x.setFree(0, false);
        for (int tile = 0; tile <= 5; tile++) {
            x.setFree(tile, true);
        }
        x.lay(719);
        Check.same("20: all are free: each is a goal", x.solve(4), 0);
        Check.same("21: all are free: each is a goal", x.deepen(4), 0);
        Check.same("26: all are free: each is a goal", x.far(2), 720);
    }

    /** "A move brings the gap to an open cell beside it", not over the edge and not over a wall. */
    private static void movesFromEachCell() {
        for (int walls = 0; walls < 512; walls++) {
            if (9 - Integer.bitCount(walls) < 3 || !isConnected(3, 3, walls)) continue;
            movesFromEachCell(3, 3, walls);
        }
        movesFromEachCell(2, 4, 0);
        movesFromEachCell(4, 2, 0);
        movesFromEachCell(2, 4, 0b00100000);
    }

    private static void movesOnLargeTrays() {
        movesFromEachCell(4, 4, 0);
        movesFromEachCell(4, 4, 0b0000_0000_0010_0000);
        movesFromEachCell(4, 4, 0b0010_0000_0000_0100);
        movesFromEachCell(4, 3, 0b000_010_000_000);
        movesFromEachCell(3, 4, 0b0000_0110_0000);
    }

    private static void movesFromEachCell(int rows, int columns, int walls) {
        int open = rows * columns - Integer.bitCount(walls);
        int index = 0;
        for (int cell = 0; cell < rows * columns; cell++) {
            if ((walls >> cell & 1) == 1) continue;
            Slidingtray x = of(rows, columns, walls);
            for (int direction = 0; direction < 4; direction++) {
                for (int many = 1; many <= 3; many++) {
                    Lies.layGap(x, open, index);
                    checkMove(x, direction, many, endOf(rows, columns, walls, cell, direction, many));
                }
            }
            index++;
        }
    }

    private static int endOf(int rows, int columns, int walls, int cell, int direction, int many) {
        int row = cell / columns;
        int column = cell % columns;
        for (int count = 0; count < many; count++) {
            row += ROW_STEP[direction];
            column += COLUMN_STEP[direction];
            if (!isOpen(rows, columns, walls, row, column)) return -1;
        }
        return row * columns + column;
    }

    private static void checkMove(Slidingtray x, int direction, int many, int end) {
        String call = "9: move(" + direction + ", " + many + ")";
        long rank = x.rank();
        if (end == -1) {
            Check.throwsIt(call, STATE, () -> x.move(direction, many));
            Check.same(call + " moved something", x.rank(), rank);
            Check.same(call + " can be undone", x.undo(1), 0);
            return;
        }
        Check.same(call, x.move(direction, many), many);
        Check.same(call + " brings the gap there", x.tileAt(end), 0);
        Check.same("10: undo(3)", x.undo(3), many);
        Check.same("10: all is as before", x.rank(), rank);
    }

    /** "It costs the weight of that tile (1 to 9; 1 at first)." */
    private static void weights() {
        Slidingtray x = of(2, 2, 0);
        for (int tile = 1; tile <= 3; tile++) {
            Check.same("7: the weight at first", x.setWeight(tile, 9), 1);
            Check.same("7: the greatest weight", x.setWeight(tile, 1), 9);
        }
        x.setWeight(3, 9);
        Check.same("9: the greatest cost of a move", x.move(1, 1), 9);
        Check.same("9: the same tile back", x.move(2, 1), 9);
        Check.same("9: another tile", x.move(0, 1), 1);
        Slidingtray y = of(4, 4, 0);
        for (int tile = 1; tile <= 15; tile++) {
            y.setWeight(tile, 9);
        }
        Check.same("9: the greatest cost of a call", y.move(0, 3), 27);
    }

    /** "its place, from 0, among all arrangements of the open cells, by the tiles on the cells with lower numbers" */
    private static void ranks() {
        int[][] trays = {{2, 2, 1}, {2, 2, 0}, {2, 3, 0b000001}, {2, 3, 0}, {3, 3, 0b000110100}};
        for (int[] tray : trays) {
            int open = tray[0] * tray[1] - Integer.bitCount(tray[2]);
            int count = 1;
            for (int places = 2; places <= open; places++) {
                count *= places;
            }
            int[] before = null;
            for (int rank = 0; rank < count; rank++) {
                Slidingtray x = of(tray[0], tray[1], tray[2]);
                int gap = x.lay(rank);
                Check.same("3: lay() tells the gap's cell", x.tileAt(gap), 0);
                Check.same("16: rank()", x.rank(), rank);
                int[] lie = valuesOn(x, tray[0] * tray[1], open);
                Check.holds("16: rank " + rank + " is behind the one before", before == null || isAhead(before, lie));
                before = lie;
            }
            Slidingtray x = of(tray[0], tray[1], tray[2]);
            int first = count;
            Check.throwsIt("3: lay(" + first + ")", ARGUMENT, () -> x.lay(first));
        }
    }

    private static int[] valuesOn(Slidingtray x, int cells, int open) {
        int[] values = new int[open];
        int next = 0;
        for (int cell = 0; cell < cells; cell++) {
            int tile = x.tileAt(cell);
            if (tile == -1) continue;
            values[next] = Lies.value(tile, open);
            next++;
        }
        return values;
    }

    private static boolean isAhead(int[] lie, int[] other) {
        for (int place = 0; place < lie.length; place++) {
            if (lie[place] != other[place]) return lie[place] < other[place];
        }
        return false;
    }

    // ---- 2. Estimates

    /** "the weights of all tiles that are not free and not on their cells of the goal" */
    private static void displaced() {
        Slidingtray x = of(2, 2, 0);
        Check.same("19: DISPLACED at the goal", x.estimate(1), 0);
        Lies.lay(x, 0, 1, 2, 3);
        Check.same("19: DISPLACED of all", x.estimate(1), 3);
        for (int tile = 1; tile <= 3; tile++) {
            x.setWeight(tile, 9);
        }
        Check.same("19: DISPLACED of all at the greatest weight", x.estimate(1), 27);
        x.setFree(1, true);
        x.setFree(2, true);
        Check.same("19: DISPLACED of the one that is not free", x.estimate(1), 9);
        x.setFree(3, true);
        for (int estimate = 0; estimate < 5; estimate++) {
            Check.same("19: nothing is left to be estimated", x.estimate(estimate), 0);
        }
        Slidingtray y = of(4, 4, 0);
        for (int tile = 1; tile <= 15; tile++) {
            y.setWeight(tile, 9);
        }
        y.lay(20922789887999L);
        // 0 15 14 13 / 12 11 10 9 / 8 7 6 5 / 4 3 2 1: each tile t lies on cell 16 - t, t - 1 is its own
        Check.same("19: DISPLACED of a large tray", y.estimate(1), 15 * 9);
    }

    /** "the least number of steps between open cells from its cell to that of the goal" */
    private static void ways() {
        // 1 2 / 0 #: from cell 1 to cell 2 over cell 0 alone
        Slidingtray x = of(2, 2, 8);
        Lies.lay(x, 1, 0, 2);
        x.setGoal();
        Lies.lay(x, 1, 2, 0);
        Check.same("19: DISPLACED of tile 2", x.estimate(1), 1);
        Check.same("19: WAYS over the first cell", x.estimate(2), 2);
        // # 1 / 2 0: from cell 1 to cell 2 over the last cell alone
        Slidingtray y = of(2, 2, 1);
        Lies.lay(y, 2, 1, 0);
        Check.same("19: WAYS over the last cell", y.estimate(2), 4);
        // a snake through 4 by 4, along row 0, down on the right, back along row 1, ...: 10 open cells
        Slidingtray z = of(4, 4, 0b0000_1110_0000_0111);
        // # # # 1 / 2 3 4 5 / 6 # # # / 7 8 9 0: tile 1 at the end of the snake
        Lies.lay(z, 0, 2, 3, 4, 5, 6, 7, 8, 9, 1);
        Check.same("19: WAYS through a snake", z.estimate(2), 9);
        z.setWeight(1, 9);
        Check.same("19: WAYS through a snake by the greatest weight", z.estimate(2), 81);
    }

    /** "two tiles that are not free are in each other's way if both lie in it, and in the goal, too, .." */
    private static void pairs() {
        Slidingtray x = of(3, 3, 0);
        Lies.lay(x, 1, 8, 3, 6, 5, 4, 7, 2, 0);
        // 8 5 2 in the middle column, 6 5 4 in the middle row: of each two must go
        Check.same("19: WAYS of a cross", x.estimate(2), 8);
        Check.same("19: PAIRS of a cross: row and column", x.estimate(3), 8 + 2 * (2 + 2));
        Lies.lay(x, 3, 2, 1, 4, 5, 6, 7, 8, 0);
        Check.same("19: PAIRS of the first row", x.estimate(3), 4 + 2 * 2);
        Lies.lay(x, 1, 2, 3, 4, 5, 6, 8, 7, 0);
        Check.same("19: PAIRS of the last row", x.estimate(3), 2 + 2);
        Lies.lay(x, 7, 2, 3, 4, 5, 6, 1, 8, 0);
        Check.same("19: PAIRS of the first column", x.estimate(3), 4 + 2 * 2);
        Lies.lay(x, 1, 2, 6, 4, 5, 3, 7, 8, 0);
        Check.same("19: PAIRS of the last column", x.estimate(3), 2 + 2);
        Lies.lay(x, 2, 0, 1, 4, 5, 3, 7, 8, 6);
        // 2 and 1 with the gap between them; 3 and 6 are in the last column, in order
        Check.same("19: PAIRS over the gap", x.estimate(3), 1 + 2 + 1 + 1 + 2);
        Lies.lay(x, 3, 1, 2, 4, 5, 6, 7, 8, 0);
        Check.same("19: one out of three is enough", x.estimate(3), 4 + 2);
        Lies.lay(x, 2, 3, 1, 4, 5, 6, 7, 8, 0);
        Check.same("19: one out of three is enough here, too", x.estimate(3), 4 + 2);
        Slidingtray y = of(4, 4, 0);
        Lies.lay(y, 13, 2, 3, 4, 9, 6, 7, 8, 5, 10, 11, 12, 1, 14, 15, 0);
        Check.same("19: three out of four in a column", y.estimate(3), 3 + 1 + 1 + 3 + 2 * 3);
        Lies.lay(y, 1, 2, 3, 4, 5, 6, 7, 8, 9, 10, 11, 12, 15, 14, 13, 0);
        Check.same("19: the last row of a large tray", y.estimate(3), 4 + 2 * 2);
        Lies.lay(y, 1, 2, 3, 12, 5, 6, 7, 8, 9, 10, 11, 4, 13, 14, 15, 0);
        Check.same("19: the last column of a large tray", y.estimate(3), 4 + 2 * 2);
    }

    /** .. "but the other way round, and no wall is in this row" */
    private static void pairsThatAreNone() {
        Slidingtray x = of(2, 3, 0);
        Lies.lay(x, 0, 1, 2, 4, 5, 3);
        Check.same("19: in the same order", x.estimate(3), x.estimate(2));
        Lies.lay(x, 4, 2, 3, 1, 5, 0);
        Check.same("19: in each other's column alone", x.estimate(3), 2 + 2);
        Lies.lay(x, 2, 4, 3, 1, 5, 0);
        Check.same("19: each has its goal in the other row", x.estimate(3), x.estimate(2));
        Lies.lay(x, 4, 1, 3, 2, 5, 0);
        Check.same("19: one of two has its goal elsewhere", x.estimate(3), x.estimate(2));
        Lies.lay(x, 2, 1, 3, 4, 5, 0);
        Check.same("19: two in a row", x.estimate(3), 2 + 2);
        x.setFree(0, true);
        Check.same("19: that the gap is free changes nothing", x.estimate(3), 2 + 2);
        x.setFree(1, true);
        Check.same("19: the first is free", x.estimate(3), 1);
        x.setFree(1, false);
        x.setFree(2, true);
        Check.same("19: the second is free", x.estimate(3), 1);
        x.setFree(1, true);
        Check.same("19: both are free", x.estimate(3), 0);
        // # 1 2 / 3 4 5 / 6 7 0: a wall in the first row and in the first column
        Slidingtray y = of(3, 3, 1);
        Lies.lay(y, 2, 1, 3, 4, 5, 6, 7, 0);
        Check.same("19: a wall is in this row", y.estimate(3), 2);
        Lies.lay(y, 1, 2, 6, 4, 5, 3, 7, 0);
        Check.same("19: a wall is in this column", y.estimate(3), 2);
        Lies.lay(y, 1, 2, 4, 3, 5, 6, 7, 0);
        Check.same("19: a wall is in another row", y.estimate(3), 2 + 2);
        Lies.lay(y, 4, 2, 3, 1, 5, 6, 7, 0);
        Check.same("19: a wall is in another column", y.estimate(3), 2 + 2);
        // 1 2 3 / 4 5 6 / 7 0 #
        Slidingtray z = of(3, 3, 256);
        Lies.lay(z, 1, 2, 6, 4, 5, 3, 7, 0);
        Check.same("19: a wall at the end of this column", z.estimate(3), 2);
        z.setGoal();
        Lies.lay(z, 1, 2, 3, 4, 5, 6, 7, 0);
        Check.same("19: the same the other way round", z.estimate(3), 2);
    }

    /** "the row adds the least sum of weights of tiles that can be taken out of it" */
    private static void pairsByWeights() {
        Slidingtray x = of(2, 3, 0);
        Lies.lay(x, 2, 3, 1, 4, 5, 0);
        // 1 is in the way of 2 and of 3, which are not in each other's way
        int[][] due = {
            {1, 1, 1, 1}, {2, 1, 1, 2}, {3, 1, 1, 2}, {9, 1, 1, 2}, {9, 4, 4, 8}, {9, 5, 4, 9}, {9, 9, 9, 9},
        };
        for (int[] row : due) {
            for (int tile = 1; tile <= 3; tile++) {
                x.setWeight(tile, row[tile - 1]);
            }
            int ways = 2 * row[0] + row[1] + row[2];
            Check.same("19: PAIRS by the weights " + row[0] + ", " + row[1] + ", " + row[2], x.estimate(3),
                    ways + 2 * row[3]);
        }
    }

    /** "PARTS is the sum of the tables of the parts (section 4) that are told; 0 without parts." */
    private static void parts() {
        Slidingtray x = of(3, 3, 0);
        Lies.lay(x, 1, 2, 3, 4, 5, 6, 0, 7, 8);
        Check.same("19: PARTS without parts", x.estimate(4), 0);
        x.part(1 << 7);
        Check.same("19: PARTS of one part", x.estimate(4), 1);
        x.part(1 << 8);
        Check.same("19: PARTS of two parts", x.estimate(4), 2);
        x.lay(0);
        Check.same("19: PARTS at the goal", x.estimate(4), 0);
    }

    // ---- 3. Search

    /** "of several that with the least estimate, then the least rank" */
    private static void bestFirst() {
        // Behind a move down tile 3 is on the first cell, behind one to the right tile 9: the first has the less rank.
        int[] start = {0, 9, 1, 2, 3, 4, 5, 6, 7, 8, 10, 11, 12, 13, 14, 15};
        int[] right = {9, 0, 1, 2, 3, 4, 5, 6, 7, 8, 10, 11, 12, 13, 14, 15};
        int[] down = {3, 9, 1, 2, 0, 4, 5, 6, 7, 8, 10, 11, 12, 13, 14, 15};
        Slidingtray x = of(4, 4, 0);
        Lies.lay(x, right);
        x.setGoal();
        Lies.lay(x, start);
        Check.same("20: to the greater rank", x.solve(0), 1);
        Check.same("20: start, the less rank, the greater rank", x.searched(0), 3);
        Lies.lay(x, down);
        x.setGoal();
        Lies.lay(x, start);
        Check.same("20: to the less rank", x.solve(0), 1);
        Check.same("20: start, the less rank", x.searched(0), 2);
        // By the least sum and the least rank alone ten states would be taken, by the greatest estimate twelve,
        // by the greatest rank eleven.
        Slidingtray y = of(2, 3, 0);
        Lies.lay(y, 2, 4, 3, 1, 5, 0);
        Check.same("20: six moves", y.solve(1), 6);
        Check.same("20: the least estimate, then the least rank", y.searched(0), 9);
    }

    /** "or its cost becomes less if it is less by this; the move by which its cost became what it is leads to it" */
    private static void cheaperLater() {
        // By the first move that finds a state alone, the way would cost 26.
        Slidingtray x = of(2, 3, 0);
        Lies.lay(x, 1, 4, 2, 3, 0, 5);
        x.setWeight(3, 4);
        Check.same("20: the cheapest way", x.solve(0), 24);
        Check.same("20: as all states tell", x.far(4), 24);
        int cost = 0;
        for (int index = 0; index < x.searched(2); index++) {
            cost += x.move(x.wayAt(index), 1);
        }
        Check.same("24: the moves cost as much", cost, 24);
        Check.same("24: they lead to the goal", x.rank(), 0);
        // Two ways of six moves from the farthest arrangement: the goal is found by rank 1, then by rank 5, but not
        // for less, so the first one stays.
        Slidingtray y = of(2, 2, 0);
        y.lay(23);
        y.solve(0);
        int[] way = {3, 2, 0, 1, 3, 2};
        for (int index = 0; index < way.length; index++) {
            Check.same("24: wayAt(" + index + ")", y.wayAt(index), way[index]);
        }
    }

    /** "If no row has ended by the bound, there is no way." */
    private static void deepening() {
        // 1 2 0 in a row: the gap can go to the other end and no further
        Slidingtray x = of(2, 3, 0b111000);
        Lies.lay(x, 2, 1, 0);
        Check.same("21: no way in a row", x.deepen(0), -1);
        // round by round: the start and the one that is beside it; three; three, of which none ended
        Check.same("21: arrangements, each round's beginning counted", x.searched(0), 2 + 3 + 3);
        Check.same("21: the round without an end is counted", x.searched(1), 3);
        Check.same("21: no moves without a way", x.searched(2), 0);
        // From the middle both rows of moves are gone through.
        Lies.lay(x, 2, 0, 1);
        Check.same("21: no way from the middle", x.deepen(0), -1);
        Check.same("21: the start, and both ends of the row", x.searched(0), 3 + 3);
        Check.same("21: two rounds", x.searched(1), 2);
        x.setWeight(1, 4);
        Check.same("21: no way by weights", x.deepen(0), -1);
        // bounds 0, 1, 4
        Check.same("21: the least sum that was greater than the bound", x.searched(1), 3);
    }

    // ---- 4. All states, parts

    /** "Of a tray with at most 6 open cells all arrangements are asked" */
    private static void smallTrays() {
        for (int walls = 0; walls < 512; walls++) {
            int open = 9 - Integer.bitCount(walls);
            if (open < 3 || !isConnected(3, 3, walls)) continue;
            Slidingtray x = of(3, 3, walls);
            if (open <= 6) {
                Check.same("26: far(4) at the goal", x.far(4), 0);
                Check.same("27: onlyWay(0)", x.onlyWay(0), 0);
                Check.same("28: isFair(PAIRS)", x.isFair(3), true);
            } else {
                Check.throwsIt("26: far() of " + open + " open cells", STATE, () -> x.far(4));
                Check.throwsIt("27: onlyWay() of " + open + " open cells", STATE, () -> x.onlyWay(0));
                Check.throwsIt("28: isFair() of " + open + " open cells", STATE, () -> x.isFair(3));
            }
            Check.same("32: errors() of " + open + " open cells", x.errors(), 0);
        }
    }

    /** "the gap anywhere", "0 where no moves do", "A tray with a part has at most 9 open cells." */
    private static void tables() {
        // a row of three cells, tile 2 in the middle: the gap is on either side of it
        Slidingtray x = of(2, 3, 0b111000);
        Check.same("29: all places of a tile in a row of three", x.part(1 << 2), 6);
        int[][] lies = {{1, 2, 0}, {0, 2, 1}, {2, 0, 1}, {2, 1, 0}, {1, 0, 2}, {0, 1, 2}};
        int[] costs = {0, 0, 1, 1, 1, 1};
        for (int index = 0; index < lies.length; index++) {
            Lies.lay(x, lies[index]);
            Check.same("29: the cost of " + lies[index][0] + " " + lies[index][1] + " " + lies[index][2],
                    x.estimate(4), costs[index]);
        }
        // both tiles: in a row of three they keep their order
        Slidingtray y = of(2, 3, 0b111000);
        Check.same("29: half of the places of two tiles", y.part(1 << 1 | 1 << 2), 3);
        Lies.lay(y, 2, 1, 0);
        Check.same("29: 0 where no moves do", y.estimate(4), 0);
        Lies.lay(y, 0, 1, 2);
        Check.same("29: both one cell on", y.estimate(4), 2);
        Slidingtray nine = of(3, 3, 0);
        Check.same("29: nine open cells", nine.part(1 << 8), 72);
        Slidingtray ten = of(4, 4, 0b1111_1100_0000_0000);
        Check.throwsIt("29: ten open cells", STATE, () -> ten.part(1 << 1));
        Slidingtray walled = of(4, 4, 0b1111_1110_0000_0000);
        Check.same("29: nine of sixteen cells", walled.part(1 << 8) > 0, true);
    }
}
