/** Promises 26 to 28: all states. */
public final class AllStatesTest {
    private static final Class<IllegalArgumentException> ARGUMENT = IllegalArgumentException.class;
    private static final Class<IllegalStateException> STATE = IllegalStateException.class;

    public static void main(String[] args) {
        far();
        farFromTheArrangement();
        farWithFreeTiles();
        farChangesWithTheAim();
        wrongFar();
        onlyWays();
        fair();
        Check.end();
    }

    private static Slidingtray of(int rows, int columns, int walls) {
        Slidingtray x = new Slidingtray();
        x.tray(rows, columns, walls);
        return x;
    }

    private static void checkFar(String what, Slidingtray x, int... due) {
        for (int index = 0; index < due.length; index++) {
            Check.same("26: far(" + index + ") " + what, x.far(index), due[index]);
        }
    }

    private static void far() {
        checkFar("of two by two", of(2, 2, 0), 12, 6, 1, 23, 0, 1);
        checkFar("of two by three", of(2, 3, 0), 360, 21, 1, 450, 0, 1);
        checkFar("of three by two", of(3, 2, 0), 360, 21, 1);
        checkFar("of three cells", of(2, 2, 1), 3, 1, 2, 1, 0, 1);
        // The gap goes along the row, and nothing else changes: 0 1 2 3 is the farthest.
        checkFar("of a row of four cells", of(2, 4, 0b00001111), 4, 3, 1, 18, 0, 1);
    }

    private static void farFromTheArrangement() {
        Slidingtray x = of(2, 2, 0);
        int[] costs = {0, 1, -1, -1, -1, 1, -1, -1, 4, 5, 3, -1, 4, 3, -1, -1, -1, 5, -1, 2, 2, -1, -1, 6};
        for (int rank = 0; rank < 24; rank++) {
            x.lay(rank);
            Check.same("26: far(4) from rank " + rank, x.far(4), costs[rank]);
            Check.same("26: far(5) from rank " + rank, x.far(5), rank == 23 ? 2 : costs[rank] < 0 ? 0 : 1);
        }
        x.setWeight(1, 2);
        // On one side of the ring of 12 tile 1 moves three times, on the other once at most.
        Check.same("26: by weights", x.far(4), 8);
        x.setWeight(2, 2);
        x.setWeight(3, 2);
        Check.same("26: all twice as heavy", x.far(4), 12);
        Check.same("26: two ways again", x.far(5), 2);
        checkFar("all twice as heavy", x, 12, 12, 1, 23);
    }

    private static void farWithFreeTiles() {
        Slidingtray x = of(2, 3, 0);
        for (int tile = 1; tile <= 5; tile++) {
            x.setFree(tile, true);
        }
        // The gap alone is to be on its cell: three steps from cell 0.
        checkFar("with all tiles free", x, 720, 3, 120, 600, 0, 1);
        x.lay(719);
        Check.same("26: three moves", x.far(4), 3);
        Check.same("26: in three orders", x.far(5), 3);
        x.setFree(0, true);
        checkFar("with all free", x, 720, 0, 720, 0, 0, 1);
        x.lay(0);
        x.setFree(1, false);
        // Tile 1 is to be on cell 0; 120 arrangements have it there.
        Check.same("26: all lead there", x.far(0), 720);
        Check.same("26: it is there", x.far(4), 0);
        Slidingtray y = of(2, 3, 0);
        y.setFree(4, true);
        Check.same("26: one free tile is none", y.far(0), 360);
        y.setFree(5, true);
        Check.same("26: with two all can be done", y.far(0), 720);
    }

    private static void farChangesWithTheAim() {
        Slidingtray x = of(2, 3, 0);
        Check.same("26: far(1)", x.far(1), 21);
        x.lay(450);
        Check.same("26: far(4) of the farthest", x.far(4), 21);
        x.setGoal();
        Check.same("26: behind setGoal()", x.far(4), 0);
        x.keep(0);
        x.lay(0);
        Check.same("26: and back", x.far(4), 21);
        x.setGoal();
        Check.same("26: behind setGoal() again", x.far(4), 0);
        x.lay(450);
        Check.same("26: the farthest again", x.far(4), 21);
        x.restore(0);
        Check.same("26: behind restore()", x.far(4), 0);
        x.move(3, 1);
        Check.same("26: behind a move", x.far(4), 1);
        x.setWeight(3, 6);
        Check.same("26: behind setWeight()", x.far(4), 6);
        x.setFree(0, true);
        Check.same("26: behind setFree() of the gap", x.far(4), 6);
        x.setFree(3, true);
        Check.same("26: behind setFree() of the tile", x.far(4), 0);
        x.tray(2, 3, 0);
        checkFar("behind tray()", x, 360, 21, 1, 450, 0, 1);
        x.tray(2, 2, 0);
        checkFar("behind tray() of another size", x, 12, 6, 1, 23, 0, 1);
    }

    private static void wrongFar() {
        Slidingtray x = new Slidingtray();
        Check.throwsIt("26: far(-1)", ARGUMENT, () -> x.far(-1));
        Check.throwsIt("26: far(6)", ARGUMENT, () -> x.far(6));
        for (int what = 0; what <= 5; what++) {
            int index = what;
            Check.throwsIt("26: far() of nine open cells", STATE, () -> x.far(index));
        }
        x.tray(2, 4, 1);
        Check.throwsIt("26: far() of seven open cells", STATE, () -> x.far(0));
        Check.throwsIt("27: onlyWay() of seven open cells", STATE, () -> x.onlyWay(0));
        Check.throwsIt("28: isFair() of seven open cells", STATE, () -> x.isFair(0));
        Check.throwsIt("27: onlyWay(-1) of seven open cells", ARGUMENT, () -> x.onlyWay(-1));
        Check.throwsIt("28: isFair(5) of seven open cells", ARGUMENT, () -> x.isFair(5));
        Check.throwsIt("28: isFair(-1) of seven open cells", ARGUMENT, () -> x.isFair(-1));
        x.tray(2, 4, 0b10001);
        Check.same("26: six open cells", x.far(0), 360);
    }

    private static void onlyWays() {
        int[] two = {0, 1, 19, 10, 8, 9, -1, -1};
        Slidingtray x = of(2, 2, 0);
        for (int cost = 0; cost < two.length; cost++) {
            Check.same("27: onlyWay(" + cost + ") of two by two", x.onlyWay(cost), two[cost]);
        }
        int[] three = {0, 1, 4, 44, 38, 39, 41, 157, 160, 205, 11, 9, 8, 18, 29, 31, 52, 61, 64, 267, -1, -1, -1};
        Slidingtray y = of(2, 3, 0);
        for (int cost = 0; cost < three.length; cost++) {
            Check.same("27: onlyWay(" + cost + ") of two by three", y.onlyWay(cost), three[cost]);
        }
        Check.throwsIt("27: onlyWay(-1)", ARGUMENT, () -> y.onlyWay(-1));
        Check.same("27: onlyWay(the greatest)", y.onlyWay(Integer.MAX_VALUE), -1);
        for (int tile = 1; tile <= 5; tile++) {
            y.setFree(tile, true);
        }
        Check.same("27: the least goal", y.onlyWay(0), 0);
        Check.same("27: the gap one step away", y.onlyWay(1), 1);
        // From cell 1 there are two ways, from cell 3 there is one: 1 2 3 / 0 4 5.
        Check.same("27: only along the row", y.onlyWay(2), 4);
        Check.same("27: no single way of three moves", y.onlyWay(3), -1);
        x.setWeight(1, 9);
        Check.same("27: by weights", x.onlyWay(9) != -1 || x.onlyWay(10) != -1 || x.onlyWay(11) != -1, true);
        x.lay(9);
        x.setGoal();
        Check.same("27: the goal's rank", x.onlyWay(0), 9);
    }

    private static void fair() {
        int[][] trays = {{2, 2, 0}, {2, 3, 0}, {3, 2, 0}, {2, 2, 2}, {2, 4, 0b10001}, {3, 3, 0b000110100}};
        for (int[] tray : trays) {
            Slidingtray x = of(tray[0], tray[1], tray[2]);
            for (int turn = 0; turn < 8; turn++) {
                x.mix(turn + tray[2], turn * 7);
                x.setGoal();
                x.setWeight(1 + turn % 2, 1 + turn * 5 % 9);
                x.setFree(turn % 3, turn % 2 == 1);
                int part = turn % 3 == 1 ? 4 : 2;
                if (!isFree(x, part == 4 ? 2 : 1)) x.part(part);
                for (int estimate = 0; estimate < 5; estimate++) {
                    Check.same("28: isFair(" + estimate + ")", x.isFair(estimate), true);
                }
            }
        }
        Slidingtray x = of(2, 3, 0);
        Check.throwsIt("28: isFair(-1)", ARGUMENT, () -> x.isFair(-1));
        Check.throwsIt("28: isFair(5)", ARGUMENT, () -> x.isFair(5));
        x.isFair(3);
        Check.same("28: nothing is told to searched()", x.searched(0), 0);
    }

    private static boolean isFree(Slidingtray x, int tile) {
        boolean was = x.setFree(tile, false);
        if (was) x.setFree(tile, true);
        return was;
    }
}
