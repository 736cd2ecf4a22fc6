/** Promise 29: the parts. */
public final class PartTest {
    private static final Class<IllegalArgumentException> ARGUMENT = IllegalArgumentException.class;
    private static final Class<IllegalStateException> STATE = IllegalStateException.class;

    public static void main(String[] args) {
        places();
        tables();
        ringTables();
        partsOfTwo();
        wrongSets();
        wrongStates();
        partsGo();
        Check.end();
    }

    private static Slidingtray of(int rows, int columns, int walls) {
        Slidingtray x = new Slidingtray();
        x.tray(rows, columns, walls);
        return x;
    }

    private static void places() {
        Check.same("29: one tile of nine cells", of(3, 3, 0).part(1 << 1), 9 * 8);
        Check.same("29: two tiles", of(3, 3, 0).part(1 << 1 | 1 << 8), 9 * 8 * 7);
        Check.same("29: three tiles", of(3, 3, 0).part(1 << 3 | 1 << 5 | 1 << 8), 9 * 8 * 7 * 6);
        Check.same("29: one tile of six cells", of(2, 3, 0).part(1 << 5), 30);
        Check.same("29: all tiles of four cells", of(2, 2, 0).part(14), 12);
        Check.same("29: two tiles of four cells", of(2, 2, 0).part(6), 12);
        Check.same("29: one tile of four cells", of(2, 2, 0).part(8), 12);
        Check.same("29: one tile of three cells", of(2, 2, 1).part(2), 3);
        Check.same("29: both tiles of three cells", of(2, 2, 1).part(6), 3);
        Check.same("29: one tile on a ring", of(3, 3, 16).part(2), 56);
        Check.same("29: two tiles on a ring", of(3, 3, 16).part(6), 56);
        Check.same("29: three tiles on a ring", of(3, 3, 16).part(14), 56);
        Check.same("29: nine of twelve cells", of(3, 4, 0b000100010001).part(2), 72);
    }

    private static void tables() {
        Slidingtray x = of(2, 3, 0);
        x.part(6);
        Check.same("29: at the goal", x.estimate(4), 0);
        x.lay(122);
        // 2 1 3 / 5 4 0
        Check.same("29: two changed tiles", x.estimate(4), 6);
        x.part(8 | 16 | 32);
        Check.same("29: both parts", x.estimate(4), 14);
        Slidingtray y = of(3, 3, 0);
        y.setWeight(1, 7);
        y.part(2);
        y.move(0, 2);
        y.move(1, 2);
        // tile 1 went one cell to the right
        Check.same("29: by weights", y.estimate(4), 7);
        y.lay(362879);
        // tile 1 is on the last cell: four steps
        Check.same("29: far off", y.estimate(4), 28);
        Slidingtray z = of(2, 2, 0);
        z.part(14);
        int[] costs = {0, 0, -1, -1, -1, 0, -1, -1, 0, 0, 0, -1, 0, 0, -1, -1, -1, 0, -1, 0, 0, -1, -1, 0};
        for (int rank = 0; rank < 24; rank++) {
            z.lay(rank);
            // With all tiles in the part, the way to their cells is the way to the goal.
            int due = costs[rank] == -1 ? 0 : z.far(4);
            Check.same("29: the table of all tiles, rank " + rank, z.estimate(4), due);
        }
    }

    private static void ringTables() {
        Slidingtray x = of(3, 3, 16);
        x.part(6);
        x.lay(5040);
        // 2 1 3 / 4 # 5 / 6 7 0: no moves bring them past each other
        Check.same("29: 0 where no moves do", x.estimate(4), 0);
        x.part(8);
        Check.same("29: tile 3 alone is at home", x.estimate(4), 0);
        x.lay(0);
        x.move(0, 2);
        Check.same("29: tile 3 went down", x.estimate(4), 1);
    }

    private static void partsOfTwo() {
        Slidingtray x = of(3, 3, 0);
        Check.same("29: the first part", x.part(2 | 4), 504);
        Check.same("29: the second part", x.part(8), 72);
        Check.throwsIt("29: a third one", STATE, () -> x.part(16));
        Check.throwsIt("29: a third one, with a tile that is in one", STATE, () -> x.part(2));
        x.move(0, 2);
        Check.same("29: what a refused part leaves", x.estimate(4), 1);
        Slidingtray y = of(3, 3, 0);
        y.part(2 | 4);
        Check.throwsIt("29: a tile is in the other", STATE, () -> y.part(4 | 8));
        Check.throwsIt("29: the same once more", STATE, () -> y.part(2 | 4));
        Check.same("29: then another", y.part(8 | 16), 504);
    }

    private static void wrongSets() {
        Slidingtray x = of(3, 3, 0);
        x.setFree(2, true);
        x.setFree(0, true);
        int[] wrong = {0, 1, 3, 4, 2 | 4, 1 << 9, 2 | 1 << 9, 1 << 31, -1, -2, 2 | 8 | 16 | 32, 1 << 16, 1 << 30};
        for (int tiles : wrong) {
            Check.throwsIt("29: part(" + tiles + ")", ARGUMENT, () -> x.part(tiles));
        }
        x.part(2);
        Check.throwsIt("29: a free tile, though there is room", ARGUMENT, () -> x.part(4));
        x.part(8);
        Check.throwsIt("29: no tiles, and no room", ARGUMENT, () -> x.part(0));
        Check.throwsIt("29: a free tile, and no room", ARGUMENT, () -> x.part(4));
        Slidingtray large = of(4, 4, 0);
        Check.throwsIt("29: four tiles of a large tray", ARGUMENT, () -> large.part(2 | 4 | 8 | 16));
        Check.throwsIt("29: the gap of a large tray", ARGUMENT, () -> large.part(1));
    }

    private static void wrongStates() {
        Check.throwsIt("29: sixteen open cells", STATE, () -> of(4, 4, 0).part(2));
        Check.throwsIt("29: twelve open cells", STATE, () -> of(3, 4, 0).part(2));
        Check.throwsIt("29: ten open cells", STATE, () -> of(3, 4, 3).part(2));
        // Tile 1 is at home at a dead end: there with the gap anywhere, or one step off with the gap behind it.
        Check.same("29: nine open cells", of(3, 4, 7).part(2), 9);
    }

    private static void partsGo() {
        Slidingtray x = of(3, 3, 0);
        x.part(2);
        x.part(4);
        x.move(0, 1);
        x.undo(1);
        x.lay(7);
        x.mix(1, 4);
        x.keep(0);
        x.setLimit(9);
        x.setMacro(0, 'u');
        Check.throwsIt("29: parts stay when tiles move", STATE, () -> x.part(8));
        x.setGoal();
        Check.same("29: setGoal() takes them away", x.part(8), 72);
        x.part(4);
        x.setFree(0, false);
        Check.same("29: setFree() takes them away", x.part(8), 72);
        x.part(4);
        x.setWeight(8, 1);
        Check.same("29: setWeight() takes them away", x.part(8), 72);
        x.part(4);
        x.restore(0);
        Check.same("29: restore() takes them away", x.part(8), 72);
        x.part(4);
        x.tray(3, 3, 0);
        Check.same("29: tray() takes them away", x.part(8), 72);
        // A table stands on the goal and the weights of its making.
        Slidingtray y = of(2, 3, 0);
        y.lay(719);
        y.setGoal();
        y.setWeight(1, 4);
        y.part(2);
        y.lay(0);
        // tile 1 belongs on cell 5 now: three steps
        Check.same("29: the table of another goal", y.estimate(4), 12);
    }
}
