import java.util.NoSuchElementException;

/** The sentences of the promises that name an edge, each with a test; the sentence stands ahead of it. */
public final class EdgeTest {
    private static final Class<IllegalArgumentException> ARGUMENT = IllegalArgumentException.class;
    private static final Class<IllegalStateException> STATE = IllegalStateException.class;
    private static final Class<NoSuchElementException> ELEMENT = NoSuchElementException.class;

    public static void main(String[] args) {
        nothingIsToldAfterTray();
        traysOfAllSizes();
        mixes();
        mixesOfOneExit();
        partsAreNoneThen();
        laysAndUndo();
        twoHundredMoves();
        undoneMovesAreGone();
        lettersOfMacros();
        playsUpToTheirEnd();
        images();
        inversionsAtBothEnds();
        reachesFromBothEnds();
        estimatesAtTheGoal();
        waysOfNoMoves();
        hintsInTheirOrder();
        farAtBothEnds();
        onlyWaysAtBothEnds();
        partsOfOneToThreeTiles();
        meanWeightsAtBothEnds();
        settledAtBothEnds();
        errorsEverywhere();
        Check.end();
    }

    private static Slidingtray of(int rows, int columns, int walls) {
        Slidingtray x = new Slidingtray();
        x.tray(rows, columns, walls);
        return x;
    }

    private static long letters(String moves) {
        long number = 0;
        for (int index = 0; index < moves.length(); index++) {
            number = number << 8 | moves.charAt(index);
        }
        return number;
    }

    // ---- trays

    /** "0 if there was no such call since the tray was made"; "since the tray was made" (wayAt) */
    private static void nothingIsToldAfterTray() {
        for (int search = 0; search < 3; search++) {
            Slidingtray x = of(2, 2, 0);
            x.lay(12);
            int cost = search == 0 ? x.solve(3) : search == 1 ? x.deepen(3) : x.both();
            Check.same("20: four moves", cost, 4);
            Check.same("23: states were told", x.searched(0) > 0, true);
            Check.same("23: moves were told", x.searched(2), search == 2 ? 0 : 4);
            if (search < 2) Check.same("24: a way was told", x.wayAt(3), 3);
            Check.throwsIt("2: a wrong tray", ARGUMENT, () -> x.tray(2, 2, 16));
            Check.same("23: states are told still", x.searched(0) > 0, true);
            if (search < 2) Check.same("24: the way is told still", x.wayAt(0), 1);
            x.tray(2, 2, 0);
            for (int what = 0; what < 3; what++) {
                Check.same("23: searched(" + what + ") of a new tray", x.searched(what), 0);
            }
            for (int index = 0; index < 4; index++) {
                int one = index;
                Check.throwsIt("24: wayAt(" + index + ") of a new tray", ELEMENT, () -> x.wayAt(one));
            }
            x.lay(23);
            x.both();
            Check.throwsIt("24: no way after both() alone", ELEMENT, () -> x.wayAt(0));
        }
    }

    /** "Makes a new tray, in order": a smaller tray after a larger one, a larger one after a smaller one. */
    private static void traysOfAllSizes() {
        Slidingtray x = new Slidingtray();
        int[][] trays = {{4, 4, 0}, {2, 2, 0}, {4, 2, 0}, {2, 4, 0}, {3, 3, 16}, {3, 3, 0}, {2, 2, 8}, {4, 4, 0x8001}};
        for (int[] tray : trays) {
            x.mix(77, 33);
            int cells = tray[0] * tray[1];
            int tiles = cells - 1 - Integer.bitCount(tray[2]);
            Check.same("2: how many tiles it has", x.tray(tray[0], tray[1], tray[2]), tiles);
            Check.same("2: in order", x.rank(), 0);
            int next = 1;
            for (int cell = 0; cell < cells; cell++) {
                boolean isWall = (tray[2] >> cell & 1) == 1;
                Check.same("2: tileAt(" + cell + ")", x.tileAt(cell), isWall ? -1 : next > tiles ? 0 : next);
                if (!isWall) next++;
            }
            Check.throwsIt("15: no more cells", IndexOutOfBoundsException.class, () -> x.tileAt(cells));
            for (int estimate = 0; estimate < 5; estimate++) {
                Check.same("19: estimate(" + estimate + ") in order", x.estimate(estimate), 0);
            }
            Check.same("7: the last tile", x.setWeight(tiles, 2), 1);
            Check.throwsIt("7: no more tiles", IndexOutOfBoundsException.class, () -> x.setWeight(tiles + 1, 2));
            Check.same("6: the last tile", x.setFree(tiles, true), false);
            Check.throwsIt("6: no more tiles", IndexOutOfBoundsException.class, () -> x.setFree(tiles + 1, true));
        }
    }

    /** "as ints that go round; it is the rest of (seed >>> 16) divided by n" */
    private static void mixes() {
        int[] seeds = {0, 1, -1, 2, 7, 65535, 65536, 123456789, -123456789, Integer.MAX_VALUE, Integer.MIN_VALUE};
        int[] manies = {0, 1, 2, 3, 17, 199, 200};
        int[][] trays = {{3, 3, 0}, {2, 2, 0}, {4, 4, 0}, {2, 3, 1}, {4, 4, 0b0000_1110_0000_0111}};
        for (int[] tray : trays) {
            for (int seed : seeds) {
                for (int many : manies) {
                    checkMix(tray[0], tray[1], tray[2], seed, many);
                }
            }
        }
    }

    private static void checkMix(int rows, int columns, int walls, int seed, int many) {
        Slidingtray x = of(rows, columns, walls);
        Slidingtray y = of(rows, columns, walls);
        int gap = x.mix(seed, many);
        int at = 31 - Integer.numberOfLeadingZeros(~walls & (1 << rows * columns) - 1);
        long drawn = seed;
        for (int made = 0; made < many; made++) {
            int[] choices = new int[4];
            int count = 0;
            for (int direction = 0; direction < 4; direction++) {
                if (beside(rows, columns, walls, at, direction) != -1) choices[count++] = direction;
            }
            // The lowest 32 bits are those of an int that went round.
            drawn = (drawn * 1103515245L + 12345L) & 0xFFFFFFFFL;
            int direction = choices[(int) ((drawn >> 16) % count)];
            y.move(direction, 1);
            at = beside(rows, columns, walls, at, direction);
        }
        Check.same("4: mix(" + seed + ", " + many + ")", gap, at);
        Check.same("4: what mix(" + seed + ", " + many + ") makes of it", x.rank(), y.rank());
        Check.same("4: none of it can be undone", x.undo(200), 0);
    }

    private static int beside(int rows, int columns, int walls, int cell, int direction) {
        int row = cell / columns + (direction == 0 ? -1 : direction == 3 ? 1 : 0);
        int column = cell % columns + (direction == 1 ? -1 : direction == 2 ? 1 : 0);
        if (row < 0 || row >= rows || column < 0 || column >= columns) return -1;
        return (walls >> row * columns + column & 1) == 1 ? -1 : row * columns + column;
    }

    /** "each the one of those that can be made, .. that a draw tells": also where there is but one. */
    private static void mixesOfOneExit() {
        // 1 2 0 in a row: to the left, then a draw of two, then to the middle, then a draw of two
        for (int seed = 0; seed < 50; seed++) {
            for (int many = 0; many < 6; many++) {
                checkMix(2, 3, 0b111000, seed, many);
            }
        }
        Slidingtray x = of(2, 3, 0b111000);
        Check.same("4: the one move that can be made", x.mix(0, 1), 1);
        x.mix(1, 200);
        Check.same("4: an even number of moves", x.tileAt(1), 0);
        Slidingtray y = new Slidingtray();
        y.move(0, 1);
        Check.same("4: mix(.., 0) moves nothing", y.mix(9, 0), 5);
        Check.same("4: but nothing can be undone then", y.undo(200), 0);
    }

    /** "Parts are none then.", also where nothing changes by the call */
    private static void partsAreNoneThen() {
        for (int call = 0; call < 6; call++) {
            Slidingtray x = of(3, 3, 0);
            x.keep(1);
            x.part(2);
            x.part(1 << 8);
            x.move(1, 1);
            Check.same("19: two parts", x.estimate(4), 1);
            x.move(2, 1);
            if (call == 0) Check.same("5: setGoal() as it was", x.setGoal(), 0);
            if (call == 1) Check.same("6: setFree() as it was", x.setFree(5, false), false);
            if (call == 2) Check.same("6: setFree() of the gap as it was", x.setFree(0, false), false);
            if (call == 3) Check.same("7: setWeight() as it was", x.setWeight(5, 1), 1);
            if (call == 4) Check.same("14: restore() as it was", x.restore(1), 8);
            if (call == 5) Check.same("2: tray() as it was", x.tray(3, 3, 0), 8);
            x.move(1, 1);
            Check.same("19: no parts behind call " + call, x.estimate(4), 0);
            Check.same("29: the first part behind call " + call, x.part(1 << 8), 72);
            Check.same("29: the second part behind call " + call, x.part(2), 72);
            Check.same("19: two parts again", x.estimate(4), 1);
        }
    }

    // ---- moves

    /** "No moves can be undone then." (lay, restore); setGoal(), keep() and what asks leave them */
    private static void laysAndUndo() {
        Slidingtray x = new Slidingtray();
        x.keep(0);
        x.move(0, 2);
        x.lay(x.rank());
        Check.same("3: lay() of what lies there", x.undo(200), 0);
        x.lay(0);
        x.move(1, 1);
        x.move(2, 1);
        x.restore(0);
        Check.same("14: restore() of what lies there", x.undo(200), 0);
        x.move(1, 1);
        x.setGoal();
        x.setFree(3, true);
        x.setWeight(3, 2);
        x.setLimit(9);
        x.setMacro(0, 'u');
        x.keep(1);
        Check.same("10: what leaves the moves", x.undo(200), 1);
        Check.same("10: the goal is not undone", x.estimate(1), 1);
    }

    /** "Undoes the latest moves, at most 200 of which are remembered." */
    private static void twoHundredMoves() {
        int[] counts = {1, 2, 159, 160, 161, 199, 200, 201, 202, 399, 400, 401, 500};
        for (int count : counts) {
            Slidingtray x = new Slidingtray();
            // Round and round: UP, LEFT, DOWN, RIGHT; macros of eight moves and of one.
            x.setMacro(0, letters("uldruldr"));
            x.setMacro(1, 'u');
            x.setMacro(2, 'l');
            x.setMacro(3, 'd');
            int made = 0;
            while (made + 160 <= count) {
                made += x.play(0, 20);
            }
            int[] round = {0, 1, 3, 2};
            for (; made < count; made++) {
                int step = made % 4;
                if (step == 3) x.move(round[step], 1);
                else x.play(1 + step, 1);
            }
            int left = Math.min(count, 200);
            Check.same("10: undo(200) of " + count, x.undo(200), left);
            Check.same("10: undo(200) of " + count + " again", x.undo(200), 0);
            Slidingtray y = new Slidingtray();
            for (int first = 0; first < (count - left) % 12; first++) {
                y.move(round[first % 4], 1);
            }
            Check.same("10: as behind the first ones of " + count, x.rank(), y.rank());
        }
        Slidingtray z = new Slidingtray();
        Check.same("9: a move of two cells is two moves", z.move(0, 2) + z.move(1, 2), 4);
        Check.same("10: undo(1)", z.undo(1), 1);
        Check.same("10: the gap is one cell back", z.tileAt(1), 0);
        Check.same("10: undo(2)", z.undo(2), 2);
        Check.same("10: the gap is on cell 5", z.tileAt(5), 0);
        Check.same("10: undo(2) of the one that is left", z.undo(2), 1);
    }

    /** What was undone is not a move that can be undone, and makes no room where there was none. */
    private static void undoneMovesAreGone() {
        Slidingtray x = new Slidingtray();
        x.setMacro(0, letters("uldruldr"));
        x.play(0, 20);
        x.play(0, 5);
        Check.same("10: undo(3) of 200", x.undo(3), 3);
        x.move(1, 1);
        Check.same("10: undo(200) of 198", x.undo(200), 198);
        Check.same("10: in order", x.rank(), 0);
        x.play(0, 20);
        x.play(0, 6);
        Check.same("10: undo(8) of 208", x.undo(8), 8);
        x.play(0, 1);
        Check.same("10: undo(200) of the 200 that were remembered", x.undo(200), 200);
        Check.same("10: what was forgotten stays so", x.undo(1), 0);
    }

    /** "up to 8 moves, told by the bytes of a number, the highest one first, without those that are 0" */
    private static void lettersOfMacros() {
        for (int low = 0; low < 256; low++) {
            boolean isMove = low == 0 || "ulrd".indexOf(low) >= 0;
            for (int index = 0; index < 8; index++) {
                Slidingtray x = new Slidingtray();
                x.setMacro(0, letters("ul"));
                long moves = (long) low << 8 * index;
                String call = "11: setMacro() with the byte " + low + " at " + index;
                if (isMove) Check.same(call, x.setMacro(0, moves), low == 0 ? 0 : 1);
                else Check.throwsIt(call, ARGUMENT, () -> x.setMacro(0, moves));
                if (low == 0) Check.throwsIt(call + ": no moves", ELEMENT, () -> x.play(0, 1));
                if (!isMove) Check.same(call + ": as before", x.play(0, 1), 2);
            }
        }
        String[] same = {
            "uldr", "\0uldr", "u\0ldr", "uldr\0", "u\0l\0d\0r", "\0\0u\0ldr", "ul\0\0\0\0dr", "uldr\0\0\0\0",
        };
        for (String moves : same) {
            Slidingtray x = new Slidingtray();
            Check.same("11: four moves", x.setMacro(2, letters(moves)), 4);
            Check.same("12: four moves", x.play(2, 1), 4);
            x.undo(1);
            Check.same("12: the last one was to the right", x.tileAt(7), 0);
        }
        Slidingtray y = new Slidingtray();
        Check.same("11: eight moves", y.setMacro(3, letters("uulddruu")), 8);
        Check.same("12: eight moves", y.play(3, 1), 8);
        Check.same("12: where they lead", y.tileAt(2), 0);
        Check.same("11: one move instead of eight", y.setMacro(3, letters("d")), 1);
        Check.same("12: one move", y.play(3, 1), 1);
        Check.same("12: the other macros have none", y.setMacro(1, 0), 0);
    }

    /** "where a move can't be made, it ends ahead of that move" */
    private static void playsUpToTheirEnd() {
        Slidingtray x = new Slidingtray();
        x.setMacro(0, letters("uldruldr"));
        Check.same("12: once", x.play(0, 1), 8);
        Check.same("12: 20 times", x.play(0, 20), 160);
        x.lay(0);
        x.setMacro(1, letters("dul"));
        Check.same("12: the first move can't be made", x.play(1, 20), 0);
        Check.same("12: nothing moved", x.rank(), 0);
        Check.same("12: nothing to be undone", x.undo(1), 0);
        x.setMacro(1, letters("uuu"));
        Check.same("12: the third move can't be made", x.play(1, 1), 2);
        Check.same("10: two moves", x.undo(200), 2);
        x.setMacro(1, letters("ul"));
        Check.same("12: in the third time the first one can't be made", x.play(1, 20), 4);
        Check.same("12: the gap is on cell 0", x.tileAt(0), 0);
        x.setMacro(2, letters("rrd"));
        Check.same("12: until the edge on the right", x.play(2, 2), 3);
        Slidingtray y = of(3, 3, 0b000010000);
        y.setMacro(0, letters("ul"));
        Check.same("12: until the wall", y.play(0, 20), 1);
    }

    /** "Keeps an image of the arrangement, the goal, what is free, and the weights." */
    private static void images() {
        Slidingtray x = of(2, 3, 0);
        Check.throwsIt("14: restore(0), not kept", STATE, () -> x.restore(0));
        Check.throwsIt("14: restore(1), not kept", STATE, () -> x.restore(1));
        x.keep(0);
        Check.throwsIt("14: restore(1), the other one was kept", STATE, () -> x.restore(1));
        x.lay(719);
        x.setGoal();
        x.setFree(0, true);
        x.setFree(5, true);
        x.setWeight(1, 9);
        x.setWeight(5, 9);
        Check.same("13: keep(1)", x.keep(1), 719);
        for (int turn = 0; turn < 3; turn++) {
            Check.same("14: restore(0)", x.restore(0), 5);
            Check.same("14: the goal of image 0", x.settled(), 1.0f);
            Check.same("14: nothing is free in image 0", x.reaches(), true);
            Check.same("14: the weights of image 0", x.meanWeight(), 1.0);
            Check.same("14: the cost in image 0", x.far(4), 0);
            Check.same("14: restore(1)", x.restore(1), 0);
            Check.same("14: the goal of image 1", x.settled(), 1.0f);
            Check.throwsIt("14: something is free in image 1", STATE, () -> x.reaches());
            Check.same("14: the weights of image 1", x.meanWeight(), 21.0 / 5.0);
            x.setGoal();
            x.setFree(turn, true);
            x.setWeight(2 + turn, 5);
            x.lay(300 + turn);
        }
        x.tray(2, 3, 0);
        for (int image = 0; image < 2; image++) {
            int one = image;
            Check.throwsIt("14: restore(" + image + ") of the tray before", STATE, () -> x.restore(one));
        }
    }

    // ---- questions

    private static void inversionsAtBothEnds() {
        int[][] trays = {{2, 2, 1}, {2, 2, 0}, {2, 3, 0}, {3, 3, 16}, {3, 3, 0}, {3, 4, 0}, {4, 4, 0}};
        for (int[] tray : trays) {
            Slidingtray x = of(tray[0], tray[1], tray[2]);
            int open = tray[0] * tray[1] - Integer.bitCount(tray[2]);
            long last = 1;
            for (int places = 2; places <= open; places++) {
                last *= places;
            }
            Check.same("17: the least of " + open, x.inversions(), 0);
            x.lay(1);
            Check.same("17: the last two of " + open, x.inversions(), 1);
            x.lay(last - 1);
            Check.same("17: the most of " + open, x.inversions(), open * (open - 1) / 2);
            Lies.layGap(x, open, 0);
            Check.same("17: the gap first, counted as the greatest", x.inversions(), open - 1);
        }
    }

    /** "Tells, without search, whether moves lead to the goal." on each arrangement of small trays */
    private static void reachesFromBothEnds() {
        int[] goals = {0, 1, 2, 23, 17, 12};
        for (int goal : goals) {
            for (int rank = 0; rank < 24; rank++) {
                Slidingtray x = of(2, 2, 0);
                x.lay(goal);
                x.setGoal();
                x.lay(rank);
                Check.same("18: from " + rank + " to " + goal, x.reaches(), x.far(4) != -1);
            }
        }
        for (int rank = 0; rank < 720; rank++) {
            Slidingtray x = of(3, 2, 0);
            x.lay(450);
            x.setGoal();
            x.lay(rank);
            Check.same("18: from " + rank, x.reaches(), x.far(4) != -1);
        }
        for (int tile = 0; tile <= 3; tile++) {
            Slidingtray x = of(2, 2, 0);
            x.setFree(tile, true);
            Check.throwsIt("18: tile " + tile + " is free", STATE, () -> x.reaches());
            Check.throwsIt("22: tile " + tile + " is free", STATE, () -> x.both());
            x.setFree(tile, false);
            Check.same("18: nothing is free", x.reaches(), true);
            Check.same("22: nothing is free", x.both(), 0);
        }
        for (int cell = 0; cell < 4; cell++) {
            Slidingtray x = of(2, 2, 1 << cell);
            Check.throwsIt("18: a wall on cell " + cell, STATE, () -> x.reaches());
            Check.same("22: a wall does not matter", x.both(), 0);
        }
    }

    private static void estimatesAtTheGoal() {
        for (int rank = 0; rank < 24; rank++) {
            Slidingtray x = of(2, 2, 0);
            x.lay(rank);
            x.setGoal();
            x.part(2);
            x.part(4 | 8);
            for (int estimate = 0; estimate < 5; estimate++) {
                Check.same("19: estimate(" + estimate + ") at the goal " + rank, x.estimate(estimate), 0);
                Check.same("20: solve(" + estimate + ") at the goal " + rank, x.solve(estimate), 0);
                Check.same("21: deepen(" + estimate + ") at the goal " + rank, x.deepen(estimate), 0);
            }
        }
    }

    // ---- search

    /** "2 for the moves of the way that was found (0 without one, and of both())" */
    private static void waysOfNoMoves() {
        Slidingtray x = of(2, 2, 0);
        x.lay(12);
        x.solve(3);
        Check.same("23: four moves", x.searched(2), 4);
        x.lay(2);
        Check.same("20: no way", x.solve(3), -1);
        Check.same("23: no moves without a way", x.searched(2), 0);
        Check.same("23: no rounds of solve()", x.searched(1), 0);
        Check.throwsIt("24: no move without a way", ELEMENT, () -> x.wayAt(0));
        Slidingtray y = of(2, 2, 1);
        y.move(0, 1);
        Check.same("21: one move", y.deepen(0), 1);
        Check.same("24: it is down", y.wayAt(0), 3);
        Check.throwsIt("24: one behind the last", ELEMENT, () -> y.wayAt(1));
        Check.throwsIt("24: one ahead of the first", ELEMENT, () -> y.wayAt(-1));
        y.lay(2);
        Check.same("21: no way", y.deepen(0), -1);
        Check.same("23: no moves without a way of deepen()", y.searched(2), 0);
        Check.throwsIt("24: no move without a way of deepen()", ELEMENT, () -> y.wayAt(0));
        y.lay(0);
        y.move(1, 1);
        y.solve(0);
        Check.same("24: one move to the right", y.wayAt(0), 2);
        Check.same("22: one move", y.both(), 1);
        Check.same("23: both() tells no moves", y.searched(2), 0);
        Check.same("24: the way of solve() is told still", y.wayAt(0), 2);
        y.lay(0);
        Check.same("21: at the goal", y.deepen(4), 0);
        Check.throwsIt("24: no move at the goal", ELEMENT, () -> y.wayAt(0));
    }

    /** "the first one, in their order, behind which the cheapest way is cheaper by what it costs" */
    private static void hintsInTheirOrder() {
        for (int rank = 0; rank < 24; rank++) {
            Slidingtray x = of(2, 2, 0);
            x.setWeight(1, 1 + rank % 9);
            x.setWeight(2, 1 + rank * 5 % 7);
            x.lay(rank);
            int cost = x.far(4);
            int due = -1;
            for (int direction = 3; direction >= 0 && cost > 0; direction--) {
                int price;
                try {
                    price = x.move(direction, 1);
                } catch (IllegalStateException e) {
                    continue;
                }
                if (x.far(4) + price == cost) due = direction;
                x.undo(1);
            }
            Check.same("25: hint() of rank " + rank, x.hint(), due);
            Check.same("23: it tells nothing", x.searched(0), 0);
        }
        // A move whose cheapest way is cheaper, but by less than the move costs, is passed over.
        Slidingtray heavy = of(2, 3, 0);
        heavy.setWeight(1, 9);
        heavy.lay(258);
        Check.same("26: the cost from there", heavy.far(4), 37);
        Check.same("9: the cost of a move to the left", heavy.move(1, 1), 9);
        Check.same("26: the cost behind it", heavy.far(4), 32);
        heavy.undo(1);
        Check.same("25: it is no hint", heavy.hint(), 3);
        Slidingtray x = new Slidingtray();
        for (int tile = 0; tile <= 8; tile++) {
            x.setFree(tile, true);
        }
        x.lay(100000);
        Check.same("25: NONE, each arrangement is a goal", x.hint(), -1);
    }

    // ---- all states

    /** "4 the cost from the arrangement (NONE if no moves lead from it), 5 .. (0 without one; 1 from a goal ..)" */
    private static void farAtBothEnds() {
        for (int goal = 0; goal < 24; goal++) {
            Slidingtray x = of(2, 2, 0);
            x.lay(goal);
            x.setGoal();
            Check.same("26: how many there are", x.far(0), 12);
            Check.same("26: the greatest cost", x.far(1), 6);
            Check.same("26: how many have it", x.far(2), 1);
            Check.same("26: no cost from the goal", x.far(4), 0);
            Check.same("26: one way from the goal", x.far(5), 1);
            x.lay(x.far(3));
            Check.same("26: the greatest cost from the farthest", x.far(4), 6);
            Check.same("26: two ways from the farthest", x.far(5), 2);
            // Two tiles change places: no moves do that.
            x.lay(goal ^ 1);
            if (x.far(4) != -1) x.lay((goal + 2) % 24);
            if (x.reaches()) continue;
            Check.same("26: NONE", x.far(4), -1);
            Check.same("26: no ways", x.far(5), 0);
        }
        Slidingtray six = of(2, 4, 0b10001);
        Check.same("26: six open cells", six.far(0), 360);
        // # 1 2 3 / 4 5 0 #: a ring of four cells with a dead end on either side
        six.tray(2, 4, 0b10000001);
        Check.same("26: six open cells otherwise", six.far(0), 18);
        six.tray(3, 3, 0b000000011);
        Check.throwsIt("26: seven open cells", STATE, () -> six.far(0));
        Slidingtray three = of(2, 2, 4);
        Check.same("26: three open cells", three.far(0), 3);
        Check.same("26: the greatest cost of three open cells", three.far(1), 2);
        for (int tile = 1; tile <= 2; tile++) {
            three.setWeight(tile, 9);
        }
        Check.same("26: the greatest cost by weights", three.far(1), 18);
        // 1 0 2 in a row, the tiles free: the gap on either end is one move off
        Slidingtray row = of(2, 3, 0b111000);
        Lies.lay(row, 1, 0, 2);
        row.setGoal();
        row.setFree(1, true);
        row.setFree(2, true);
        int[] near = {6, 1, 4, 0, 0, 1};
        for (int what = 0; what < 6; what++) {
            Check.same("26: far(" + what + ") of a row with free tiles", row.far(what), near[what]);
        }
        Slidingtray free = of(2, 2, 0);
        for (int tile = 0; tile <= 3; tile++) {
            free.setFree(tile, true);
        }
        int[] due = {24, 0, 24, 0, 0, 1};
        for (int what = 0; what < 6; what++) {
            Check.same("26: far(" + what + ") with all free", free.far(what), due[what]);
        }
    }

    /** "0 or more"; "NONE if there is none" */
    private static void onlyWaysAtBothEnds() {
        Slidingtray x = of(2, 2, 0);
        x.lay(14);
        x.setGoal();
        Check.same("27: the goal", x.onlyWay(0), 14);
        int greatest = x.far(1);
        Check.same("27: two ways from the farthest", x.onlyWay(greatest), -1);
        Check.same("27: one less", x.onlyWay(greatest - 1) >= 0, true);
        Check.same("27: one more", x.onlyWay(greatest + 1), -1);
        Check.throwsIt("27: below 0", ARGUMENT, () -> x.onlyWay(-1));
        x.setFree(3, true);
        x.setFree(2, true);
        Check.same("27: the least of the goals", x.onlyWay(0), Math.min(14, leastGoal(x)));
    }

    private static long leastGoal(Slidingtray x) {
        for (int rank = 0; rank < 24; rank++) {
            x.lay(rank);
            if (x.far(4) == 0) return rank;
        }
        return -1;
    }

    // ---- parts

    /** "tiles is 0, has other bits than those of tiles that are not free, or more than 3" */
    private static void partsOfOneToThreeTiles() {
        for (int bits = 0; bits < 64; bits++) {
            for (int free = 0; free < 16; free++) {
                Slidingtray x = of(2, 2, 0);
                for (int tile = 0; tile <= 3; tile++) {
                    x.setFree(tile, (free >> tile & 1) == 1);
                }
                int tiles = bits;
                boolean isPart = bits != 0 && (bits & ~0b1110) == 0 && (bits & free) == 0;
                String call = "29: part(" + bits + ") with " + free + " free";
                // 2 and 3 at home have both other cells apart: one side of them each for the gap, and so all places.
                if (isPart) Check.same(call, x.part(tiles), bits == 0b1100 ? 24 : 12);
                else Check.throwsIt(call, ARGUMENT, () -> x.part(tiles));
            }
        }
        int[] places = {0, 30, 120, 360};
        for (int bits = 2; bits < 64; bits += 2) {
            Slidingtray x = of(2, 3, 0);
            int tiles = bits;
            int count = Integer.bitCount(bits);
            if (count <= 3) Check.same("29: part(" + bits + ")", x.part(tiles), places[count]);
            else Check.throwsIt("29: part(" + bits + ")", ARGUMENT, () -> x.part(tiles));
        }
        Slidingtray x = of(3, 3, 0);
        Check.same("29: the greatest table", x.part(1 << 6 | 1 << 7 | 1 << 8), 3024);
        Check.same("29: and another", x.part(1 << 1 | 1 << 2 | 1 << 3), 3024);
        Check.throwsIt("29: two parts are there", STATE, () -> x.part(1 << 4));
    }

    // ---- measures

    private static void meanWeightsAtBothEnds() {
        int[][] trays = {{2, 2, 1}, {2, 2, 0}, {3, 3, 0}, {4, 4, 0}};
        for (int[] tray : trays) {
            Slidingtray x = new Slidingtray();
            int tiles = x.tray(tray[0], tray[1], tray[2]);
            Check.same("30: the least", x.meanWeight(), 1.0);
            for (int tile = 1; tile <= tiles; tile++) {
                x.setWeight(tile, 9);
                double due = (double) (tiles + 8 * tile) / (double) tiles;
                Check.same("30: " + tile + " of " + tiles, x.meanWeight(), due);
            }
            Check.same("30: the greatest", x.meanWeight(), 9.0);
        }
    }

    /** "0.0f if all are free" */
    private static void settledAtBothEnds() {
        Slidingtray x = of(4, 4, 0);
        Check.same("31: all", x.settled(), 1.0f);
        x.setFree(0, true);
        Check.same("31: all, and the gap is free", x.settled(), 1.0f);
        x.lay(20922789887999L);
        Check.same("31: none", x.settled(), 0.0f);
        x.lay(0);
        for (int tile = 1; tile <= 15; tile++) {
            Check.same("31: all that are not free", x.settled(), 1.0f);
            x.setFree(tile, true);
        }
        Check.same("31: all are free", x.settled(), 0.0f);
        x.setFree(0, false);
        Check.same("31: all tiles are free, the gap is not", x.settled(), 0.0f);
        x.setFree(15, false);
        Check.same("31: one is not", x.settled(), 1.0f);
        Slidingtray y = new Slidingtray();
        int[] moves = {1, 1, 0, 2, 2, 3};
        float[] due = {7.0f / 8.0f, 6.0f / 8.0f, 5.0f / 8.0f, 4.0f / 8.0f, 3.0f / 8.0f, 3.0f / 8.0f};
        for (int index = 0; index < moves.length; index++) {
            y.move(moves[index], 1);
            Check.same("31: behind " + (index + 1) + " moves", y.settled(), due[index]);
        }
        Slidingtray z = of(2, 2, 1);
        z.lay(2);
        Check.same("31: none of two", z.settled(), 0.0f);
    }

    /** "Returns how many of these things are not so; always 0." */
    private static void errorsEverywhere() {
        int[][] trays = {{2, 2, 0}, {2, 3, 0}, {2, 2, 1}, {2, 3, 0b111000}, {3, 3, 0b000110100}};
        for (int[] tray : trays) {
            int open = tray[0] * tray[1] - Integer.bitCount(tray[2]);
            int count = 1;
            for (int places = 2; places <= open; places++) {
                count *= places;
            }
            for (int rank = 0; rank < count; rank += open == 6 ? 7 : 1) {
                Slidingtray x = of(tray[0], tray[1], tray[2]);
                x.setLimit(1 + rank * 13 % 1000);
                x.lay(rank);
                Check.same("32: errors() of rank " + rank, x.errors(), 0);
                x.setWeight(1, 1 + rank % 9);
                x.setFree(rank % 3, true);
                Check.same("32: errors() of rank " + rank + " with something free", x.errors(), 0);
                x.setFree(0, true);
                x.setFree(2, false);
                x.part(4);
                Check.same("32: errors() of rank " + rank + " with a part", x.errors(), 0);
            }
        }
    }
}
