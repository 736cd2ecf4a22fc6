/** The limits of the searches: what needs as much as the limit tells is done, what needs one more is refused. */
public final class LimitTest {
    private static final Class<IllegalArgumentException> ARGUMENT = IllegalArgumentException.class;
    private static final Class<IllegalStateException> STATE = IllegalStateException.class;
    private static final int SOLVE = 0;
    private static final int DEEPEN = 1;
    private static final int BOTH = 2;
    private static final String[] NAMES = {"20: solve", "21: deepen", "22: both"};

    public static void main(String[] args) {
        limits();
        fiveHundredAtFirst();
        oneThousandAtMost();
        eachLimit();
        noWay();
        leastLimit();
        aRefusedSearchTellsNothing();
        hintsOfOneHundred();
        errorsAskNothingThatIsRefused();
        Check.end();
    }

    private static Slidingtray at(int rows, int columns, int walls, long goal, long rank) {
        Slidingtray x = new Slidingtray();
        x.tray(rows, columns, walls);
        x.lay(goal);
        x.setGoal();
        x.lay(rank);
        return x;
    }

    private static int search(Slidingtray x, int which, int estimate) {
        if (which == SOLVE) return x.solve(estimate);
        if (which == DEEPEN) return x.deepen(estimate);
        return x.both();
    }

    private static void needs(Slidingtray x, int which, int estimate, int states, int cost) {
        String name = NAMES[which] + " that needs " + states;
        if (states > 1) {
            x.setLimit(states - 1);
            Check.throwsIt(name + " with one less", STATE, () -> search(x, which, estimate));
        }
        x.setLimit(states);
        Check.same(name, search(x, which, estimate), cost);
        Check.same("23: searched(0) of " + name, x.searched(0), states);
    }

    /** "1 to 1000, 500 at first"; tray(): "the limit stays" */
    private static void limits() {
        Slidingtray x = new Slidingtray();
        Check.same("8: 500 at first", x.setLimit(1), 500);
        Check.same("8: the least one", x.setLimit(1000), 1);
        Check.same("8: the greatest one", x.setLimit(1000), 1000);
        int[] wrong = {0, 1001, -1, -500, 1024, 65537, Integer.MAX_VALUE, Integer.MIN_VALUE};
        for (int limit : wrong) {
            Check.throwsIt("8: setLimit(" + limit + ")", ARGUMENT, () -> x.setLimit(limit));
        }
        Check.same("8: wrong ones change nothing", x.setLimit(7), 1000);
        x.tray(3, 3, 0);
        x.keep(0);
        x.restore(0);
        x.setGoal();
        Check.same("8: the limit stays", x.setLimit(7), 7);
    }

    private static void fiveHundredAtFirst() {
        Slidingtray x = at(3, 3, 0, 0, 55596);
        Check.same("20: 500 states", x.solve(2), 22);
        Check.same("23: 500 states", x.searched(0), 500);
        x.lay(287267);
        Check.throwsIt("20: 501 states", STATE, () -> x.solve(2));
        x.setLimit(501);
        Check.same("20: 501 states with the limit 501", x.solve(2), 22);
        Slidingtray y = at(3, 3, 0, 0, 121755);
        Check.same("21: 500 arrangements", y.deepen(0), 7);
        Check.same("23: 500 arrangements", y.searched(0), 500);
        y.lay(6171);
        Check.throwsIt("21: 501 arrangements", STATE, () -> y.deepen(1));
        y.setLimit(501);
        Check.same("21: 501 arrangements with the limit 501", y.deepen(1), 13);
        Slidingtray z = at(3, 4, 256, 1, 2223721);
        Check.same("22: 500 arrangements", z.both(), 14);
        Check.same("23: 500 arrangements of both()", z.searched(0), 500);
        Slidingtray w = at(3, 4, 8, 328352, 614278);
        Check.throwsIt("22: 501 arrangements", STATE, () -> w.both());
        w.setLimit(501);
        Check.same("22: 501 arrangements with the limit 501", w.both(), 14);
    }

    private static void oneThousandAtMost() {
        Slidingtray x = at(4, 4, 0, 0, 6507299);
        x.setLimit(1000);
        Check.same("20: 1000 states", x.solve(1), 18);
        Check.same("23: 1000 states", x.searched(0), 1000);
        Slidingtray y = at(3, 3, 0, 0, 263749);
        y.setLimit(1000);
        Check.throwsIt("20: 1001 states", STATE, () -> y.solve(1));
        y.lay(120373);
        Check.same("21: 1000 arrangements", y.deepen(1), 15);
        Check.same("23: 1000 arrangements", y.searched(0), 1000);
        x.lay(159809911);
        Check.throwsIt("21: 1001 arrangements", STATE, () -> x.deepen(1));
        Slidingtray z = at(4, 4, 8192, 0, 486227427981L);
        z.setLimit(1000);
        Check.same("22: 1000 arrangements", z.both(), 15);
        Check.same("23: 1000 arrangements of both()", z.searched(0), 1000);
        Slidingtray w = at(4, 4, 272, 1, 83231312);
        w.setLimit(1000);
        Check.throwsIt("22: 1001 arrangements", STATE, () -> w.both());
    }

    /** Each search of the arrangements of a small tray, with the limit that it needs and with one less. */
    private static void eachLimit() {
        for (int rank = 0; rank < 24; rank++) {
            Slidingtray x = at(2, 2, 0, 0, rank);
            int cost = x.far(4);
            if (cost == -1) continue;
            for (int estimate = 0; estimate < 5; estimate++) {
                x.setLimit(1000);
                x.solve(estimate);
                needs(x, SOLVE, estimate, x.searched(0), cost);
                x.setLimit(1000);
                x.deepen(estimate);
                needs(x, DEEPEN, estimate, x.searched(0), cost);
            }
            x.setLimit(1000);
            x.both();
            needs(x, BOTH, 0, x.searched(0), cost);
        }
    }

    /** "If none is left, there is no way": also where the last one that is left is the last one that may be taken. */
    private static void noWay() {
        for (int estimate = 0; estimate < 5; estimate++) {
            needs(at(2, 2, 0, 0, 2), SOLVE, estimate, 12, -1);
            needs(at(2, 3, 0, 0, 2), SOLVE, estimate, 360, -1);
            needs(at(3, 3, 16, 0, 2), SOLVE, estimate, 56, -1);
            needs(at(2, 2, 1, 0, 2), SOLVE, estimate, 3, -1);
        }
        needs(at(2, 2, 0, 0, 2), BOTH, 0, 24, -1);
        needs(at(2, 3, 0, 0, 2), BOTH, 0, 720, -1);
        needs(at(3, 3, 16, 0, 2), BOTH, 0, 112, -1);
        needs(at(2, 2, 1, 0, 2), BOTH, 0, 6, -1);
        needs(at(2, 2, 1, 0, 2), DEEPEN, 0, 6, -1);
    }

    /** "as many states as the limit tells, 1 to .." */
    private static void leastLimit() {
        Slidingtray x = new Slidingtray();
        x.setLimit(1);
        for (int estimate = 0; estimate < 5; estimate++) {
            Check.same("20: a goal is the one state", x.solve(estimate), 0);
            Check.same("23: one state", x.searched(0), 1);
            Check.same("21: a goal is the one arrangement", x.deepen(estimate), 0);
            Check.same("23: one arrangement", x.searched(0), 1);
            Check.same("23: one round", x.searched(1), 1);
        }
        // "both ends themselves, too; one that is found from both counts twice"
        Check.throwsIt("22: both ends are two, even where they are one", STATE, () -> x.both());
        x.setLimit(2);
        Check.same("22: both ends", x.both(), 0);
        Check.same("23: it counts twice", x.searched(0), 2);
        x.move(0, 1);
        for (int limit = 1; limit <= 2; limit++) {
            x.setLimit(limit);
            Check.throwsIt("22: one move with the limit " + limit, STATE, () -> x.both());
        }
        // the first ring has up, left and down of cell 5: the goal among them
        x.setLimit(5);
        Check.same("22: one move, the ring is found whole", x.both(), 1);
        x.setLimit(4);
        Check.throwsIt("22: a ring that is found whole is too much", STATE, () -> x.both());
        x.setLimit(1);
        Check.throwsIt("20: two states", STATE, () -> x.solve(2));
        Check.throwsIt("21: two arrangements", STATE, () -> x.deepen(2));
    }

    private static void aRefusedSearchTellsNothing() {
        Slidingtray x = at(2, 2, 0, 0, 12);
        x.deepen(0);
        x.lay(23);
        x.setLimit(5);
        Check.throwsIt("20: refused", STATE, () -> x.solve(0));
        Check.throwsIt("21: refused", STATE, () -> x.deepen(0));
        Check.throwsIt("22: refused", STATE, () -> x.both());
        x.setLimit(1);
        Check.throwsIt("20: refused at once", STATE, () -> x.solve(0));
        Check.throwsIt("21: refused at once", STATE, () -> x.deepen(0));
        Check.throwsIt("22: refused at once", STATE, () -> x.both());
        int[] told = {34, 5, 4};
        for (int what = 0; what < 3; what++) {
            Check.same("23: searched(" + what + ") of the one before", x.searched(what), told[what]);
        }
        int[] way = {1, 0, 2, 3};
        for (int index = 0; index < 4; index++) {
            Check.same("24: wayAt(" + index + ") of the one before", x.wayAt(index), way[index]);
        }
    }

    /** "Throws IllegalStateException if one of these searches would take more than 100 states" */
    private static void hintsOfOneHundred() {
        Slidingtray x = at(3, 3, 0, 0, 79948);
        Check.same("25: 100 states from the arrangement", x.hint(), 1);
        Check.same("20: as solve() has it", x.solve(3), 17);
        Check.same("23: 100 states", x.searched(0), 100);
        x.lay(61340);
        Check.throwsIt("25: 101 states from the arrangement", STATE, () -> x.hint());
        Check.same("20: as solve() has it", x.solve(3), 15);
        Check.same("23: 101 states", x.searched(0), 101);
        x.lay(41029);
        Check.throwsIt("25: 102 states from the arrangement, less behind each move", STATE, () -> x.hint());
        x.lay(74908);
        Check.same("25: 100 states behind a move", x.hint(), 3);
        x.move(1, 1);
        x.solve(3);
        Check.same("23: 100 states", x.searched(0), 100);
        x.lay(61334);
        Check.throwsIt("25: 101 states behind a move", STATE, () -> x.hint());
        Check.same("20: as solve() has it", x.solve(3), 14);
        Check.same("23: from the arrangement there are less", x.searched(0), 58);
        x.move(0, 1);
        x.solve(3);
        Check.same("23: 101 states", x.searched(0), 101);
        // "but with the limit 100": whatever the limit of searches is
        x.setLimit(1000);
        x.lay(61340);
        Check.throwsIt("25: 101 states with a great limit", STATE, () -> x.hint());
        x.setLimit(1);
        x.lay(79948);
        Check.same("25: 100 states with a small limit", x.hint(), 1);
        Check.throwsIt("20: the limit is small still", STATE, () -> x.solve(3));
        // no way: 56 states from each arrangement of a ring of eight cells
        Slidingtray y = at(3, 3, 16, 0, 2);
        Check.same("25: no way by 56 states", y.hint(), -1);
        Slidingtray z = at(2, 3, 0, 0, 2);
        Check.throwsIt("25: no way by 360 states", STATE, () -> z.hint());
    }

    /** "(one that would be refused is not asked)" */
    private static void errorsAskNothingThatIsRefused() {
        for (int rank = 0; rank < 24; rank++) {
            Slidingtray x = at(2, 2, 0, 0, rank);
            for (int limit = 1; limit <= 8; limit++) {
                x.setLimit(limit);
                Check.same("32: errors() of rank " + rank + " with the limit " + limit, x.errors(), 0);
            }
        }
        Slidingtray x = at(2, 3, 0, 0, 450);
        x.setLimit(1000);
        Check.same("32: errors() of the farthest", x.errors(), 0);
    }
}
