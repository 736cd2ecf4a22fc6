/** "An object is used for at most 512 calls": what the first of them answer, the last ones do, too. */
public final class ManyCallsTest {
    public static void main(String[] args) {
        dearSearches();
        smallSearches();
        movesThatAreRemembered();
        searchesLeaveNothingBehind();
        Check.end();
    }

    private static void dearSearches() {
        Slidingtray x = new Slidingtray();
        x.setLimit(1000);
        x.tray(4, 4, 0);
        x.lay(6507299);
        for (int turn = 0; turn < 127; turn++) {
            Check.same("20: solve() in turn " + turn, x.solve(1), 18);
            Check.same("23: its states in turn " + turn, x.searched(0), 1000);
            Check.same("22: both() in turn " + turn, refusedBoth(x), true);
            Check.same("32: errors() in turn " + turn, x.errors(), 0);
        }
    }

    private static boolean refusedBoth(Slidingtray x) {
        try {
            x.both();
        } catch (IllegalStateException e) {
            return true;
        }
        return false;
    }

    private static void smallSearches() {
        Slidingtray x = new Slidingtray();
        x.tray(2, 3, 0);
        x.lay(174);
        x.setLimit(1000);
        int cost = x.solve(0);
        int states = x.searched(0);
        int comeTo = x.deepen(3) == cost ? x.searched(0) : -1;
        int found = x.both() == cost ? x.searched(0) : -1;
        int hint = x.hint();
        for (int turn = 0; turn < 50; turn++) {
            Check.same("20: solve() in turn " + turn, x.solve(0), cost);
            Check.same("23: its states in turn " + turn, x.searched(0), states);
            Check.same("21: deepen() in turn " + turn, x.deepen(3), cost);
            Check.same("23: its arrangements in turn " + turn, x.searched(0), comeTo);
            Check.same("22: both() in turn " + turn, x.both(), cost);
            Check.same("23: what it found in turn " + turn, x.searched(0), found);
            Check.same("25: hint() in turn " + turn, x.hint(), hint);
            x.setWeight(1, 1);
            Check.same("26: far(4) in turn " + turn, x.far(4), cost);
            Check.same("29: part() in turn " + turn, x.part(2 | 4 | 8), 360);
        }
    }

    private static void movesThatAreRemembered() {
        Slidingtray x = new Slidingtray();
        for (int turn = 0; turn < 252; turn++) {
            x.move(turn % 2 == 0 ? 0 : 3, 1);
            x.move(turn % 2 == 0 ? 1 : 2, 1);
        }
        long rank = x.rank();
        Check.same("10: undo(150) of 504", x.undo(150), 150);
        Check.same("10: undo(51) of the 50 that are left", x.undo(51), 50);
        Check.same("10: undo(1) of none", x.undo(1), 0);
        Slidingtray y = new Slidingtray();
        for (int turn = 0; turn < 152; turn++) {
            y.move(turn % 2 == 0 ? 0 : 3, 1);
            y.move(turn % 2 == 0 ? 1 : 2, 1);
        }
        Check.same("10: as behind the first 304 moves", x.rank(), y.rank());
        Check.holds("10: not as behind all of them", rank != y.rank());
    }

    /** States that still waited when a search ended are none of all states, nor of a part's table. */
    private static void searchesLeaveNothingBehind() {
        for (int estimate = 0; estimate < 5; estimate++) {
            Slidingtray x = new Slidingtray();
            Slidingtray y = new Slidingtray();
            x.tray(2, 3, 0);
            y.tray(2, 3, 0);
            x.lay(174);
            y.lay(174);
            x.solve(estimate);
            same(x, y, "behind solve(" + estimate + ")");
            x.setWeight(1, 3);
            y.setWeight(1, 3);
            x.hint();
            same(x, y, "behind hint()");
            x.solve(estimate);
            x.part(2 | 16);
            y.part(2 | 16);
            Check.same("29: the table behind solve(" + estimate + ")", x.estimate(4), y.estimate(4));
            x.setGoal();
            y.setGoal();
            x.lay(0);
            y.lay(0);
            x.solve(estimate);
            Check.same("29: places behind solve(" + estimate + ")", x.part(4 | 8 | 32), y.part(4 | 8 | 32));
            x.solve(4);
            same(x, y, "behind solve(PARTS)");
        }
    }

    private static void same(Slidingtray x, Slidingtray y, String when) {
        for (int what = 0; what < 6; what++) {
            Check.same("26: far(" + what + ") " + when, x.far(what), y.far(what));
        }
        Check.same("27: onlyWay(6) " + when, x.onlyWay(6), y.onlyWay(6));
    }
}
