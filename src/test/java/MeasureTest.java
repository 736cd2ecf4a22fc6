/** Promises 30 to 32: the measures. */
public final class MeasureTest {
    public static void main(String[] args) {
        meanWeights();
        settled();
        errors();
        errorsLeaveAll();
        Check.end();
    }

    private static void meanWeights() {
        Slidingtray x = new Slidingtray();
        Check.same("30: all weights are 1", x.meanWeight(), 1.0);
        x.setWeight(8, 9);
        Check.same("30: one is 9", x.meanWeight(), 2.0);
        x.tray(2, 2, 0);
        x.setWeight(1, 2);
        Check.same("30: a third", x.meanWeight(), 4.0 / 3.0);
        x.setFree(1, true);
        Check.same("30: what is free counts", x.meanWeight(), 4.0 / 3.0);
        x.tray(2, 2, 8);
        x.setWeight(2, 4);
        Check.same("30: two tiles", x.meanWeight(), 2.5);
        x.tray(4, 4, 0);
        x.setWeight(15, 2);
        Check.same("30: fifteen tiles", x.meanWeight(), 16.0 / 15.0);
    }

    private static void settled() {
        Slidingtray x = new Slidingtray();
        Check.same("31: all", x.settled(), 1.0f);
        x.move(0, 1);
        Check.same("31: seven of eight", x.settled(), 0.875f);
        x.setFree(6, true);
        Check.same("31: all that are not free", x.settled(), 1.0f);
        x.setFree(6, false);
        x.setFree(1, true);
        Check.same("31: six of seven", x.settled(), 6.0f / 7.0f);
        x.setFree(0, true);
        Check.same("31: the gap does not count", x.settled(), 6.0f / 7.0f);
        x.setFree(0, false);
        for (int tile = 1; tile <= 8; tile++) {
            x.setFree(tile, true);
        }
        Check.same("31: all are free", x.settled(), 0.0f);
        x.setFree(6, false);
        Check.same("31: none of one", x.settled(), 0.0f);
        x.undo(1);
        Check.same("31: one of one", x.settled(), 1.0f);
        x.tray(2, 2, 0);
        x.move(1, 1);
        Check.same("31: two of three", x.settled(), 2.0f / 3.0f);
    }

    private static void errors() {
        Slidingtray x = new Slidingtray();
        int[][] trays = {{2, 2, 0}, {2, 3, 0}, {2, 2, 1}, {3, 3, 16}, {4, 4, 0}, {3, 3, 0b001000100}, {4, 4, 0x0660}};
        for (int[] tray : trays) {
            x.tray(tray[0], tray[1], tray[2]);
            for (int turn = 0; turn < 12; turn++) {
                x.mix(turn * 977, turn * 5);
                if (turn % 4 == 1) x.setGoal();
                if (turn % 4 == 2) x.setWeight(1 + turn % 2, turn % 9 + 1);
                if (turn == 7) x.lay(2);
                if (turn == 9) x.setFree(turn % 3, true);
                Check.same("32: errors()", x.errors(), 0);
            }
        }
        x.tray(2, 3, 0);
        x.lay(2);
        x.setLimit(3);
        Check.same("32: what would be refused is not asked", x.errors(), 0);
    }

    private static void errorsLeaveAll() {
        Slidingtray x = new Slidingtray();
        x.tray(2, 3, 0);
        x.part(2);
        x.part(4);
        x.move(0, 1);
        x.move(1, 2);
        x.deepen(0);
        int comeTo = x.searched(0);
        int rounds = x.searched(1);
        int moves = x.searched(2);
        int first = x.wayAt(0);
        long rank = x.rank();
        int estimate = x.estimate(4);
        x.errors();
        Check.same("32: searched(0) is told nothing", x.searched(0), comeTo);
        Check.same("32: searched(1) is told nothing", x.searched(1), rounds);
        Check.same("32: searched(2) is told nothing", x.searched(2), moves);
        Check.same("32: wayAt(0) is told nothing", x.wayAt(0), first);
        Check.same("32: the arrangement stays", x.rank(), rank);
        Check.same("32: the parts stay", x.estimate(4), estimate);
        Check.throwsIt("32: two parts are there", IllegalStateException.class, () -> x.part(8));
        Check.same("32: the moves stay", x.undo(200), 3);
        Check.same("32: the limit stays", x.setLimit(5), 500);
    }
}
