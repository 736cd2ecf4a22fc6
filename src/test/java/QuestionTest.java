/** Promises 15 to 19: the questions. */
public final class QuestionTest {
    private static final Class<IllegalArgumentException> ARGUMENT = IllegalArgumentException.class;
    private static final Class<IndexOutOfBoundsException> INDEX = IndexOutOfBoundsException.class;
    private static final Class<IllegalStateException> STATE = IllegalStateException.class;

    public static void main(String[] args) {
        tiles();
        ranks();
        inversions();
        reaches();
        displaced();
        ways();
        pairs();
        pairsBesideWallsAndFreeTiles();
        pairsWithWeights();
        parts();
        Check.end();
    }

    private static void tiles() {
        Slidingtray x = new Slidingtray();
        x.tray(2, 4, 0b00010001);
        int[] lie = {-1, 1, 2, 3, -1, 4, 5, 0};
        for (int cell = 0; cell < 8; cell++) {
            Check.same("15: tileAt(" + cell + ")", x.tileAt(cell), lie[cell]);
        }
        Check.throwsIt("15: tileAt(8)", INDEX, () -> x.tileAt(8));
        Check.throwsIt("15: tileAt(-1)", INDEX, () -> x.tileAt(-1));
        Check.throwsIt("15: tileAt(15)", INDEX, () -> x.tileAt(15));
        Check.throwsIt("15: tileAt(16)", INDEX, () -> x.tileAt(16));
        Check.throwsIt("15: tileAt(the greatest)", INDEX, () -> x.tileAt(Integer.MAX_VALUE));
        x.tray(4, 4, 0);
        Check.same("15: tileAt(15)", x.tileAt(15), 0);
        x.tray(2, 2, 0);
        Check.throwsIt("15: tileAt(4) of a smaller tray", INDEX, () -> x.tileAt(4));
    }

    private static void ranks() {
        Slidingtray x = new Slidingtray();
        long[] some = {0, 1, 2, 5, 40319, 40320, 100000, 362878, 362879};
        for (long rank : some) {
            x.lay(rank);
            Check.same("16: rank() of what was laid", x.rank(), rank);
        }
        x.lay(0);
        x.move(1, 1);
        // the gap, the greatest, ahead of tile 8 on the last two cells
        Check.same("16: rank() after a move to the left", x.rank(), 1);
        x.lay(0);
        x.move(0, 1);
        // on cell 5 the gap instead of tile 6, then 7, 8, 6: three of the four are less, then 2, 1
        Check.same("16: rank() after a move up", x.rank(), 3 * 6 + 1 * 2 + 1);
        x.tray(4, 4, 0);
        x.lay(20922789887999L);
        Check.same("16: the last rank", x.rank(), 20922789887999L);
        x.lay(1307674368000L);
        Check.same("16: a rank beyond an int", x.rank(), 1307674368000L);
    }

    private static void inversions() {
        Slidingtray x = new Slidingtray();
        Check.same("17: none in order", x.inversions(), 0);
        x.move(0, 1);
        // the gap ahead of 7, 8 and 6, and 7 and 8 ahead of 6
        Check.same("17: after a move up", x.inversions(), 5);
        x.lay(362879);
        Check.same("17: the other way round", x.inversions(), 36);
        x.tray(4, 4, 0);
        x.lay(20922789887999L);
        Check.same("17: the other way round on a large tray", x.inversions(), 120);
        x.tray(2, 2, 1);
        x.lay(4);
        // the gap, 1, 2
        Check.same("17: open cells alone are counted", x.inversions(), 2);
    }

    private static void reaches() {
        Slidingtray x = new Slidingtray();
        for (int rows = 2; rows <= 4; rows++) {
            for (int columns = 2; columns <= 4; columns++) {
                x.tray(rows, columns, 0);
                x.lay(2);
                Check.same("18: two tiles are changed", x.reaches(), false);
                x.mix(rows * columns, 31);
                Check.same("18: moves do not help", x.reaches(), false);
                x.setGoal();
                Check.same("18: the goal itself", x.reaches(), true);
                x.mix(rows + columns, 32);
                Check.same("18: moves lead back", x.reaches(), true);
                x.lay(0);
                Check.same("18: in order is not reached now", x.reaches(), false);
            }
        }
        int reached = 0;
        for (int part = 0; part < 3; part++) {
            Slidingtray small = new Slidingtray();
            small.tray(2, 3, 0);
            for (int rank = 240 * part; rank < 240 * part + 240; rank++) {
                small.lay(rank);
                if (small.reaches()) reached++;
            }
        }
        Check.same("18: half of all arrangements", reached, 360);
        Slidingtray y = new Slidingtray();
        y.tray(2, 3, 1);
        Check.throwsIt("18: a wall", STATE, () -> y.reaches());
        y.tray(2, 3, 0);
        y.setFree(0, true);
        Check.throwsIt("18: the gap is free", STATE, () -> y.reaches());
        y.setFree(0, false);
        y.setFree(5, true);
        Check.throwsIt("18: a tile is free", STATE, () -> y.reaches());
        y.setFree(5, false);
        Check.same("18: nothing is free", y.reaches(), true);
    }

    private static void displaced() {
        Slidingtray x = new Slidingtray();
        x.lay(362879);
        // 0 8 7 / 6 5 4 / 3 2 1: tile 5 alone is on its cell
        Check.same("19: NOTHING", x.estimate(0), 0);
        Check.same("19: DISPLACED", x.estimate(1), 7);
        x.setWeight(8, 9);
        x.setWeight(5, 4);
        Check.same("19: DISPLACED by weights", x.estimate(1), 15);
        x.setFree(8, true);
        x.setFree(0, true);
        Check.same("19: DISPLACED without the free ones", x.estimate(1), 6);
        Check.throwsIt("19: estimate(-1)", ARGUMENT, () -> x.estimate(-1));
        Check.throwsIt("19: estimate(5)", ARGUMENT, () -> x.estimate(5));
        x.lay(0);
        x.move(0, 1);
        Check.same("19: the gap does not count", x.estimate(1), 1);
    }

    private static void ways() {
        Slidingtray x = new Slidingtray();
        x.lay(362879);
        // 8 from 1 to 7: 2; 7 from 2 to 6: 4; 6 from 3 to 5: 2; 4: 2; 3: 4; 2: 2; 1 from 8 to 0: 4
        Check.same("19: WAYS", x.estimate(2), 20);
        x.setWeight(7, 3);
        Check.same("19: WAYS by weights", x.estimate(2), 28);
        x.setFree(7, true);
        Check.same("19: WAYS without the free one", x.estimate(2), 16);
        // 1 # 2 / 3 # 4 / 5 6 0: round the wall
        x.tray(3, 3, 0b000010010);
        x.lay(720);
        // 2 # 1 / 3 # 4 / 5 6 0
        Check.same("19: WAYS round a wall", x.estimate(2), 12);
        Check.same("19: DISPLACED does not go", x.estimate(1), 2);
        x.tray(3, 3, 0b000010000);
        x.lay(0);
        x.setGoal();
        x.move(0, 2);
        Check.same("19: WAYS round a wall in the middle", x.estimate(2), 2);
    }

    private static void pairs() {
        Slidingtray x = new Slidingtray();
        x.tray(2, 2, 0);
        x.lay(6);
        // 2 1 / 3 0
        Check.same("19: PAIRS of two in a row", x.estimate(3), 4);
        x.tray(2, 3, 0);
        x.lay(122);
        Check.same("19: PAIRS of two rows", x.estimate(3), 8);
        x.lay(2 * 120 + 24);
        // 3 2 1 / 4 5 0: two must be taken out
        Check.same("19: WAYS of three the other way round", x.estimate(2), 4);
        Check.same("19: PAIRS of three the other way round", x.estimate(3), 8);
        x.lay(2 * 120);
        // 3 1 2 / 4 5 0: one is enough
        Check.same("19: PAIRS of one ahead of two", x.estimate(3), 4 + 2);
        x.tray(3, 2, 0);
        x.lay(2 * 120 + 24);
        // 3 2 / 1 4 / 5 0: 1 and 3 in the first column
        Check.same("19: PAIRS in a column", x.estimate(3), 2 + 2);
        x.tray(4, 4, 0);
        x.lay(3 * 1307674368000L + 2 * 87178291200L + 6227020800L);
        // 4 3 2 1 / ..: three must be taken out
        Check.same("19: WAYS of four the other way round", x.estimate(2), 8);
        Check.same("19: PAIRS of four the other way round", x.estimate(3), 14);
        x.lay(1307674368000L + 6227020800L);
        // 2 1 4 3 / ..: two pairs
        Check.same("19: PAIRS of two pairs in a row", x.estimate(3), 8);
        x.lay(0);
        x.move(1, 1);
        Check.same("19: the gap is in no one's way", x.estimate(3), 1);
        x.lay(0);
        x.move(0, 1);
        x.move(1, 1);
        // ../ 9 10 0 11 / 13 14 15 12: 12 is in another row than in the goal
        Check.same("19: only those whose goal is in the row", x.estimate(3), 2);
    }

    private static void pairsBesideWallsAndFreeTiles() {
        Slidingtray x = new Slidingtray();
        x.tray(3, 3, 0b000000100);
        // 1 2 # / 3 4 5 / 6 7 0
        x.lay(5040);
        Check.same("19: a wall is in this row", x.estimate(3), 2);
        x.tray(3, 3, 0b000010000);
        // 1 2 3 / 4 # 5 / 6 7 0
        x.lay(5040);
        Check.same("19: no wall is in this row", x.estimate(3), 4);
        x.lay(720);
        // 1 3 2 / 4 # 5 / 6 7 0
        Check.same("19: nor here", x.estimate(3), 4);
        x.setFree(2, true);
        Check.same("19: one is free", x.estimate(3), 1);
        x.setFree(2, false);
        x.setGoal();
        x.lay(0);
        Check.same("19: as the goal has it", x.estimate(3), 4);
        x.tray(3, 3, 0b001000000);
        x.lay(3 * 5040 + 720 + 120);
        // 4 2 3 / 1 .. / # ..: the first column has a wall
        Check.same("19: a wall is in this column", x.estimate(3), x.estimate(2));
    }

    private static void pairsWithWeights() {
        Slidingtray x = new Slidingtray();
        x.tray(2, 3, 0);
        x.lay(2 * 120);
        // 3 1 2 / 4 5 0: either 3 goes, or 1 and 2
        x.setWeight(3, 5);
        Check.same("19: WAYS with a heavy tile", x.estimate(2), 12);
        Check.same("19: the two light ones go", x.estimate(3), 12 + 2 * 2);
        x.setWeight(2, 5);
        Check.same("19: the heavy one goes", x.estimate(3), 16 + 2 * 5);
        x.lay(2 * 120 + 24);
        // 3 2 1: all but the heaviest go
        x.setWeight(1, 9);
        Check.same("19: all but the heaviest go", x.estimate(3), 2 * 9 + 2 * 5 + 2 * 10);
        x.tray(4, 4, 0);
        x.lay(3 * 1307674368000L + 2 * 87178291200L + 6227020800L);
        for (int tile = 1; tile <= 4; tile++) {
            x.setWeight(tile, 9);
        }
        // 4 3 2 1: three of the heaviest go
        Check.same("19: the most that a row adds", x.estimate(3), 8 * 9 + 2 * 27);
    }

    private static void parts() {
        Slidingtray x = new Slidingtray();
        x.tray(2, 3, 0);
        x.move(1, 1);
        Check.same("19: PARTS without parts", x.estimate(4), 0);
        x.lay(0);
        x.part(1 << 5);
        x.move(1, 1);
        // 1 2 3 / 4 0 5
        Check.same("19: PARTS of tile 5", x.estimate(4), 1);
        x.part(1 << 4);
        Check.same("19: PARTS of both", x.estimate(4), 1);
        x.move(1, 1);
        // 1 2 3 / 0 4 5
        Check.same("19: PARTS of both, both away", x.estimate(4), 2);
        x.setWeight(4, 7);
        Check.same("19: PARTS are none then", x.estimate(4), 0);
        x.part(1 << 4 | 1 << 5);
        Check.same("19: PARTS by weights", x.estimate(4), 8);
    }
}
