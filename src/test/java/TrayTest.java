/** Promises 1 to 8: a new object, and the trays. */
public final class TrayTest {
    private static final Class<IllegalArgumentException> ARGUMENT = IllegalArgumentException.class;
    private static final Class<IndexOutOfBoundsException> INDEX = IndexOutOfBoundsException.class;
    private static final Class<IllegalStateException> STATE = IllegalStateException.class;

    public static void main(String[] args) {
        newObject();
        trays();
        wrongTrays();
        trayMakesAllNew();
        lays();
        mixes();
        goals();
        frees();
        weights();
        limits();
        Check.end();
    }

    private static void newObject() {
        Slidingtray x = new Slidingtray();
        for (int cell = 0; cell < 9; cell++) {
            Check.same("1: tileAt(" + cell + ")", x.tileAt(cell), cell < 8 ? cell + 1 : 0);
        }
        Check.throwsIt("1: tileAt(9)", INDEX, () -> x.tileAt(9));
        Check.same("1: rank()", x.rank(), 0);
        Check.same("1: settled()", x.settled(), 1.0f);
        Check.same("1: meanWeight()", x.meanWeight(), 1.0);
        Check.same("1: undo(200)", x.undo(200), 0);
        Check.throwsIt("1: play(0, 1)", java.util.NoSuchElementException.class, () -> x.play(0, 1));
        Check.throwsIt("1: restore(0)", STATE, () -> x.restore(0));
        Check.throwsIt("1: wayAt(0)", java.util.NoSuchElementException.class, () -> x.wayAt(0));
        for (int what = 0; what < 3; what++) {
            Check.same("1: searched(" + what + ")", x.searched(what), 0);
        }
        Check.same("1: estimate(PARTS)", x.estimate(4), 0);
        Check.same("1: reaches()", x.reaches(), true);
        Check.same("1: the limit at first", x.setLimit(500), 500);
        Slidingtray other = new Slidingtray();
        other.move(0, 1);
        Check.same("1: objects have nothing in common", x.rank(), 0);
    }

    private static void trays() {
        Slidingtray x = new Slidingtray();
        for (int rows = 2; rows <= 4; rows++) {
            for (int columns = 2; columns <= 4; columns++) {
                int tiles = rows * columns - 1;
                Check.same("2: tray(" + rows + ", " + columns + ", 0)", x.tray(rows, columns, 0), tiles);
                Check.same("2: its last tile", x.tileAt(tiles - 1), tiles);
                Check.same("2: its gap", x.tileAt(tiles), 0);
            }
        }
        Check.same("2: walls at both ends", x.tray(3, 3, 0b100000001), 6);
        int[] lie = {-1, 1, 2, 3, 4, 5, 6, 0, -1};
        for (int cell = 0; cell < 9; cell++) {
            Check.same("2: tileAt(" + cell + ") with walls", x.tileAt(cell), lie[cell]);
        }
        Check.same("2: a ring", x.tray(3, 3, 0b000010000), 7);
        Check.same("2: three open cells round a corner", x.tray(4, 4, 0xffff & ~0b110001), 2);
        Check.same("2: three open cells in a row", x.tray(2, 3, 0b000111), 2);
        Check.same("2: three open cells in a column", x.tray(3, 2, 0b010101), 2);
        Check.same("2: a long way through the tray", x.tray(4, 4, 0b0111_0000_1110_0000 & 0xffff), 9);
    }

    private static void wrongTrays() {
        Slidingtray x = new Slidingtray();
        x.move(0, 1);
        int[][] wrong = {
            {1, 3, 0}, {5, 3, 0}, {3, 1, 0}, {3, 5, 0}, {0, 0, 0}, {-2, -2, 0}, {Integer.MAX_VALUE, 2, 0},
            {2, Integer.MIN_VALUE, 0}, {2, 2, 16}, {3, 3, 512}, {4, 4, 1 << 16}, {4, 4, 1 << 31}, {2, 2, -1},
            {2, 2, 15}, {2, 2, 3}, {2, 2, 5}, {3, 3, 511}, {4, 4, 0xfffc}, {4, 4, 0xffff},
            // not connected: a row between, a column between, over a corner, round the edge
            {3, 3, 0b000111000}, {3, 3, 0b010010010}, {2, 3, 0b001010}, {3, 3, 0b110110001}, {2, 4, 0b00010110},
            {4, 4, 0b0000111100000000},
        };
        for (int[] tray : wrong) {
            Check.throwsIt("2: tray(" + tray[0] + ", " + tray[1] + ", " + tray[2] + ")", ARGUMENT,
                    () -> x.tray(tray[0], tray[1], tray[2]));
        }
        Check.same("2: a wrong tray changes nothing", x.tileAt(5), 0);
        Check.same("2: nor what can be undone", x.undo(200), 1);
    }

    private static void trayMakesAllNew() {
        Slidingtray x = new Slidingtray();
        x.tray(2, 3, 0);
        x.setLimit(77);
        x.setWeight(1, 9);
        x.setFree(0, true);
        x.setFree(2, true);
        x.move(0, 1);
        x.setGoal();
        x.part(2);
        x.keep(0);
        x.keep(1);
        x.setMacro(0, 'l');
        x.setMacro(3, 'u');
        x.move(1, 1);
        x.solve(2);
        Check.same("2: tray(2, 3, 0)", x.tray(2, 3, 0), 5);
        Check.same("2: the new tray is in order", x.rank(), 0);
        Check.same("2: all weights are 1", x.meanWeight(), 1.0);
        Check.same("2: in order is the goal", x.settled(), 1.0f);
        Check.same("2: nothing is free", x.reaches(), true);
        Check.same("2: tile 2 is not free", x.setFree(2, false), false);
        Check.same("2: the gap is not free", x.setFree(0, false), false);
        Check.same("2: no moves", x.undo(1), 0);
        Check.same("2: no states", x.searched(0), 0);
        Check.same("2: no way", x.searched(2), 0);
        Check.throwsIt("2: wayAt(0)", java.util.NoSuchElementException.class, () -> x.wayAt(0));
        Check.throwsIt("2: restore(0)", STATE, () -> x.restore(0));
        Check.throwsIt("2: restore(1)", STATE, () -> x.restore(1));
        Check.throwsIt("2: play(0, 1)", java.util.NoSuchElementException.class, () -> x.play(0, 1));
        Check.throwsIt("2: play(3, 1)", java.util.NoSuchElementException.class, () -> x.play(3, 1));
        Check.same("2: all states anew", x.far(0), 360);
        Check.same("2: no parts: the first", x.part(2), 30);
        Check.same("2: no parts: the second", x.part(4), 30);
        Check.same("2: the limit stays", x.setLimit(500), 77);
        x.both();
        x.tray(2, 2, 0);
        Check.same("2: nothing was searched by both()", x.searched(0), 0);
        Check.same("2: all states of the other tray", x.far(0), 12);
    }

    private static void lays() {
        Slidingtray x = new Slidingtray();
        x.tray(2, 3, 0);
        Check.same("3: lay(0)", x.lay(0), 5);
        Check.same("3: lay(1)", x.lay(1), 4);
        Check.same("3: lay(719)", x.lay(719), 0);
        int[] last = {0, 5, 4, 3, 2, 1};
        for (int cell = 0; cell < 6; cell++) {
            Check.same("3: tileAt(" + cell + ") of the last rank", x.tileAt(cell), last[cell]);
        }
        Check.same("3: lay(122)", x.lay(122), 5);
        int[] some = {2, 1, 3, 5, 4, 0};
        for (int cell = 0; cell < 6; cell++) {
            Check.same("3: tileAt(" + cell + ") of rank 122", x.tileAt(cell), some[cell]);
        }
        x.move(0, 1);
        Check.throwsIt("3: lay(-1)", ARGUMENT, () -> x.lay(-1));
        Check.throwsIt("3: lay(720)", ARGUMENT, () -> x.lay(720));
        Check.throwsIt("3: lay(the least)", ARGUMENT, () -> x.lay(Long.MIN_VALUE));
        Check.throwsIt("3: lay(the greatest)", ARGUMENT, () -> x.lay(Long.MAX_VALUE));
        Check.throwsIt("3: lay(2^32)", ARGUMENT, () -> x.lay(1L << 32));
        Check.same("3: a wrong rank changes nothing", x.undo(1), 1);
        Check.same("3: nor what lies", x.rank(), 122);
        x.move(0, 1);
        x.lay(5);
        Check.same("3: no moves can be undone", x.undo(1), 0);
        x.tray(4, 4, 0);
        Check.same("3: lay(16! - 1)", x.lay(20922789887999L), 0);
        Check.same("3: its second tile", x.tileAt(1), 15);
        Check.same("3: its last tile", x.tileAt(15), 1);
        Check.throwsIt("3: lay(16!)", ARGUMENT, () -> x.lay(20922789888000L));
        // 14 * 15! + 1 * 14!: the 15th of all, then the second of those that are left
        Check.same("3: lay(14 * 15! + 14!)", x.lay(14 * 1307674368000L + 87178291200L), 15);
        Check.same("3: tileAt(0)", x.tileAt(0), 15);
        Check.same("3: tileAt(1)", x.tileAt(1), 2);
        Check.same("3: tileAt(2)", x.tileAt(2), 1);
        x.tray(2, 2, 2);
        Check.same("3: lay(5) beside a wall", x.lay(5), 0);
        Check.same("3: lay(3) beside a wall", x.lay(3), 2);
        Check.throwsIt("3: lay(6) beside a wall", ARGUMENT, () -> x.lay(6));
    }

    private static void mixes() {
        int[][] due = {
            {0, 1, 5}, {0, 5, 1}, {0, 200, 2}, {1, 5, 5}, {1, 200, 0}, {-1, 1, 7}, {-1, 5, 7}, {-1, 200, 0},
            {12345, 200, 2}, {2147483647, 5, 3}, {2147483647, 200, 8}, {5, 0, 8},
        };
        for (int[] mix : due) {
            Slidingtray x = new Slidingtray();
            Check.same("4: mix(" + mix[0] + ", " + mix[1] + ")", x.mix(mix[0], mix[1]), mix[2]);
            Check.same("4: moves lead back", x.reaches(), true);
        }
        Slidingtray x = new Slidingtray();
        x.mix(-1, 5);
        Slidingtray y = new Slidingtray();
        int[] moves = {1, 2, 0, 3, 1};
        for (int direction : moves) {
            y.move(direction, 1);
        }
        Check.same("4: the moves of mix(-1, 5)", x.rank(), y.rank());
        Check.same("4: no moves can be undone", x.undo(1), 0);
        x.tray(4, 4, 0x20);
        Check.same("4: mix round a wall", x.mix(12345, 20), 0);
        x.move(3, 1);
        Check.throwsIt("4: mix(1, -1)", ARGUMENT, () -> x.mix(1, -1));
        Check.throwsIt("4: mix(1, 201)", ARGUMENT, () -> x.mix(1, 201));
        Check.same("4: a wrong mix changes nothing", x.undo(1), 1);
        x.move(3, 1);
        Check.same("4: mix(1, 0)", x.mix(1, 0), 4);
        Check.same("4: no moves can be undone then either", x.undo(1), 0);
    }

    private static void goals() {
        Slidingtray x = new Slidingtray();
        x.tray(2, 3, 0);
        x.part(2);
        x.part(4);
        x.lay(122);
        x.far(1);
        Check.same("5: setGoal()", x.setGoal(), 122);
        Check.same("5: settled() at the goal", x.settled(), 1.0f);
        Check.same("5: far(4) at the goal", x.far(4), 0);
        Check.same("5: parts are none then", x.part(2), 30);
        x.lay(0);
        Check.same("5: settled() beside the goal", x.settled(), 0.2f);
        Check.same("5: far(4) beside the goal", x.far(4) > 0, true);
        x.lay(719);
        Check.same("5: setGoal() at the last rank", x.setGoal(), 719);
        x.move(3, 1);
        Check.same("5: the goal stays when the gap moves", x.estimate(1), 1);
        Check.same("5: setGoal() leaves what can be undone", x.undo(5), 1);
        x.tray(4, 4, 0);
        x.lay(20922789887999L);
        Check.same("5: setGoal() tells a long", x.setGoal(), 20922789887999L);
    }

    private static void frees() {
        Slidingtray x = new Slidingtray();
        x.tray(2, 3, 0);
        x.lay(719);
        Check.same("6: setFree(1, true)", x.setFree(1, true), false);
        Check.same("6: setFree(1, true) again", x.setFree(1, true), true);
        Check.same("6: setFree(1, false)", x.setFree(1, false), true);
        Check.same("6: setFree(1, false) again", x.setFree(1, false), false);
        Check.same("6: setFree(0, true)", x.setFree(0, true), false);
        Check.same("6: setFree(5, true)", x.setFree(5, true), false);
        Check.throwsIt("6: setFree(6, true)", INDEX, () -> x.setFree(6, true));
        Check.throwsIt("6: setFree(-1, true)", INDEX, () -> x.setFree(-1, true));
        Check.throwsIt("6: setFree(32, true)", INDEX, () -> x.setFree(32, true));
        Check.throwsIt("6: reaches()", STATE, () -> x.reaches());
        // 0 5 4 / 3 2 1: the tiles 1 to 4 are off their cells, tile 5 is free
        Check.same("6: estimate(DISPLACED)", x.estimate(1), 4);
        x.setFree(5, false);
        Check.same("6: estimate(DISPLACED) again", x.estimate(1), 5);
        Check.throwsIt("6: the gap alone is free", STATE, () -> x.reaches());
        x.setFree(0, false);
        x.part(2);
        x.part(4);
        x.setFree(3, false);
        Check.same("6: parts are none then", x.part(2), 30);
        Check.throwsIt("6: a wrong tile", INDEX, () -> x.setFree(6, false));
        Check.throwsIt("6: a wrong tile leaves the parts", STATE, () -> x.part(2));
        x.lay(0);
        x.setGoal();
        x.lay(2);
        Check.same("6: solve(WAYS) of a swap in the last row", x.far(4), -1);
        x.setFree(3, true);
        x.setFree(4, true);
        Check.same("6: with two free tiles it can be done", x.far(4) > 0, true);
        Check.same("6: what is free stays with a new goal", x.setGoal(), 2);
        Check.same("6: tile 3 is free", x.setFree(3, true), true);
    }

    private static void weights() {
        Slidingtray x = new Slidingtray();
        x.tray(2, 2, 0);
        x.far(0);
        Check.same("7: setWeight(1, 9)", x.setWeight(1, 9), 1);
        Check.same("7: setWeight(1, 1)", x.setWeight(1, 1), 9);
        Check.same("7: setWeight(3, 5)", x.setWeight(3, 5), 1);
        Check.same("7: a move of tile 3", x.move(1, 1), 5);
        Check.same("7: its cheapest way back", x.far(4), 5);
        Check.throwsIt("7: setWeight(0, 1)", INDEX, () -> x.setWeight(0, 1));
        Check.throwsIt("7: setWeight(4, 1)", INDEX, () -> x.setWeight(4, 1));
        Check.throwsIt("7: setWeight(-1, 0)", INDEX, () -> x.setWeight(-1, 0));
        Check.throwsIt("7: setWeight(4, 10)", INDEX, () -> x.setWeight(4, 10));
        Check.throwsIt("7: setWeight(1, 0)", ARGUMENT, () -> x.setWeight(1, 0));
        Check.throwsIt("7: setWeight(1, 10)", ARGUMENT, () -> x.setWeight(1, 10));
        Check.throwsIt("7: setWeight(1, -5)", ARGUMENT, () -> x.setWeight(1, -5));
        Check.same("7: a wrong weight changes nothing", x.meanWeight(), 7.0 / 3.0);
        x.part(2);
        x.part(4);
        Check.throwsIt("7: setWeight(1, 0) with parts", ARGUMENT, () -> x.setWeight(1, 0));
        Check.throwsIt("7: a wrong weight leaves the parts", STATE, () -> x.part(8));
        x.setWeight(2, 1);
        Check.same("7: parts are none then", x.part(8), 12);
    }

    private static void limits() {
        Slidingtray x = new Slidingtray();
        Check.same("8: setLimit(1)", x.setLimit(1), 500);
        Check.same("8: setLimit(1000)", x.setLimit(1000), 1);
        Check.throwsIt("8: setLimit(0)", ARGUMENT, () -> x.setLimit(0));
        Check.throwsIt("8: setLimit(1001)", ARGUMENT, () -> x.setLimit(1001));
        Check.throwsIt("8: setLimit(-1)", ARGUMENT, () -> x.setLimit(-1));
        Check.same("8: a wrong limit changes nothing", x.setLimit(5), 1000);
        x.move(0, 1);
        x.setLimit(2);
        Check.same("8: two states are enough", x.solve(2), 1);
        x.setLimit(1);
        Check.throwsIt("8: one is too few", STATE, () -> x.solve(2));
        Check.throwsIt("8: one is too few for both ends", STATE, () -> x.both());
        Check.throwsIt("8: and for deepening", STATE, () -> x.deepen(2));
    }
}
