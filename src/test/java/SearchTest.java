import java.util.NoSuchElementException;

/** Promises 20 to 25: the search. */
public final class SearchTest {
    private static final Class<IllegalArgumentException> ARGUMENT = IllegalArgumentException.class;
    private static final Class<IllegalStateException> STATE = IllegalStateException.class;
    private static final Class<NoSuchElementException> ELEMENT = NoSuchElementException.class;

    public static void main(String[] args) {
        solves();
        solvesInOrderOfRanks();
        solvesByWeights();
        solvesToFreeGoals();
        solvesWithinTheLimit();
        deepens();
        deepensWithinTheLimit();
        bothEnds();
        bothEndsWithinTheLimit();
        searched();
        waysLeadToTheGoal();
        ways();
        hints();
        hintsByTheirWords();
        hintsWithinTheirLimit();
        Check.end();
    }

    private static Slidingtray small(long rank) {
        Slidingtray x = new Slidingtray();
        x.tray(2, 2, 0);
        x.lay(rank);
        return x;
    }

    private static void solves() {
        Slidingtray x = small(12);
        Check.same("20: solve(NOTHING)", x.solve(0), 4);
        Check.same("20: its states", x.searched(0), 8);
        Check.same("20: solve(WAYS)", x.solve(2), 4);
        Check.same("20: its states", x.searched(0), 5);
        Check.same("20: the arrangement stays", x.rank(), 12);
        Check.same("20: solve(NOTHING) of the farthest", small(23).solve(0), 6);
        Check.same("20: solve(NOTHING) without a way", small(2).solve(0), -1);
        for (int estimate = 0; estimate < 5; estimate++) {
            Check.same("20: a goal", small(0).solve(estimate), 0);
            Check.same("20: no way", small(1 + 1).solve(estimate), -1);
        }
        Check.throwsIt("20: solve(-1)", ARGUMENT, () -> x.solve(-1));
        Check.throwsIt("20: solve(5)", ARGUMENT, () -> x.solve(5));
        x.setLimit(1);
        Check.throwsIt("20: solve(5), both apply", ARGUMENT, () -> x.solve(5));
    }

    private static void solvesInOrderOfRanks() {
        // Two arrangements are five moves away from 0: those of the ranks 9 and 17.
        Slidingtray x = small(9);
        x.setGoal();
        x.lay(0);
        Check.same("20: to rank 9", x.solve(0), 5);
        Check.same("20: it is the first of two", x.searched(0), 10);
        x.lay(17);
        x.setGoal();
        x.lay(0);
        Check.same("20: to rank 17", x.solve(0), 5);
        Check.same("20: it is the second of two", x.searched(0), 11);
        Slidingtray y = new Slidingtray();
        y.move(0, 1);
        // By WAYS the sum is 1 at the start and at the goal, more elsewhere.
        y.solve(2);
        Check.same("20: the least sum first", y.searched(0), 2);
        Slidingtray z = new Slidingtray();
        z.lay(1307674368000L % 362880);
        z.move(1, 1);
        Check.same("20: PAIRS takes no more than WAYS", atMost(z, 3, 2), true);
        Check.same("20: WAYS takes no more than DISPLACED", atMost(z, 2, 1), true);
        Check.same("20: DISPLACED takes no more than NOTHING", atMost(z, 1, 0), true);
    }

    private static boolean atMost(Slidingtray x, int estimate, int other) {
        x.solve(estimate);
        int states = x.searched(0);
        x.solve(other);
        return states <= x.searched(0);
    }

    private static void solvesByWeights() {
        Slidingtray x = small(23);
        // 0 3 / 2 1: six moves on either side; each tile goes two cells
        x.setWeight(1, 9);
        Check.same("20: by weights", x.solve(0), 2 * 9 + 2 + 2);
        Check.same("20: by weights and WAYS", x.solve(2), 2 * 9 + 2 + 2);
        Check.same("20: by weights and all states", x.far(4), 2 * 9 + 2 + 2);
        Slidingtray y = small(12);
        Check.same("20: the short way", y.solve(3), 4);
        y.setWeight(3, 9);
        // The short way moves tile 3 twice; the long one, eight moves, does so no less.
        Check.same("20: the short way is the cheapest, too", y.solve(3), y.far(4));
        Check.same("20: all estimates tell the same", y.solve(0), y.solve(1));
    }

    private static void solvesToFreeGoals() {
        Slidingtray x = new Slidingtray();
        x.tray(2, 3, 0);
        x.lay(2);
        Check.same("20: two tiles changed", x.far(4), -1);
        x.setFree(4, true);
        Check.same("20: one free tile does not help", x.far(4), -1);
        x.setLimit(1000);
        Check.same("20: nor in the search", x.solve(2), -1);
        Check.same("20: all states were taken", x.searched(0), 360);
        x.setFree(5, true);
        Check.same("20: with two it is a goal", x.solve(3), 0);
        x.lay(122);
        Check.same("20: as all states tell", x.solve(3), x.far(4));
        x.setFree(0, true);
        x.lay(0);
        x.move(1, 2);
        Check.same("20: the gap may be anywhere", x.solve(1), 0);
        x.setFree(4, false);
        Check.same("20: but not tile 4", x.solve(1), 1);
    }

    private static void solvesWithinTheLimit() {
        Slidingtray x = small(12);
        x.setLimit(8);
        Check.same("20: eight states are enough", x.solve(0), 4);
        x.setLimit(7);
        Check.throwsIt("20: seven are too few", STATE, () -> x.solve(0));
        Check.same("20: searched() tells of the one before", x.searched(0), 8);
        Check.same("20: and wayAt(), too", x.wayAt(3), 3);
        Slidingtray y = small(2);
        y.setLimit(12);
        Check.same("20: twelve states are enough for no way", y.solve(0), -1);
        y.setLimit(11);
        Check.throwsIt("20: eleven are too few", STATE, () -> y.solve(0));
        Slidingtray z = new Slidingtray();
        z.lay(2);
        Check.throwsIt("20: 500 at first", STATE, () -> z.solve(3));
        z.setLimit(1000);
        Check.throwsIt("20: 1000 at most", STATE, () -> z.solve(0));
        Check.same("20: a refused search tells nothing", z.searched(0), 0);
    }

    private static void deepens() {
        Slidingtray x = small(12);
        Check.same("21: deepen(NOTHING)", x.deepen(0), 4);
        Check.same("21: its arrangements", x.searched(0), 34);
        Check.same("21: its rounds", x.searched(1), 5);
        Check.same("21: its moves", x.searched(2), 4);
        Check.same("21: deepen(WAYS)", x.deepen(2), 4);
        Check.same("21: its arrangements", x.searched(0), 6);
        Check.same("21: its rounds", x.searched(1), 1);
        Check.same("21: the arrangement stays", x.rank(), 12);
        for (int estimate = 0; estimate < 5; estimate++) {
            Slidingtray y = small(0);
            Check.same("21: a goal", y.deepen(estimate), 0);
            Check.same("21: the beginning is counted", y.searched(0), 1);
            Check.same("21: one round", y.searched(1), 1);
            Check.same("21: no moves", y.searched(2), 0);
        }
        Slidingtray line = new Slidingtray();
        line.tray(2, 2, 1);
        line.lay(2);
        Check.same("21: no way", line.deepen(0), -1);
        Check.same("21: its arrangements", line.searched(0), 6);
        Check.same("21: its rounds", line.searched(1), 2);
        Check.throwsIt("21: deepen(-1)", ARGUMENT, () -> x.deepen(-1));
        Check.throwsIt("21: deepen(5)", ARGUMENT, () -> x.deepen(5));
        x.setWeight(1, 5);
        x.setWeight(3, 2);
        Check.same("21: by weights", x.deepen(0), x.solve(0));
        x.deepen(0);
        // The bounds are sums that were come to, so by weights some are left out.
        Check.same("21: fewer rounds than costs", x.searched(1) <= x.solve(0), true);
    }

    private static void deepensWithinTheLimit() {
        Slidingtray x = small(12);
        x.setLimit(34);
        Check.same("21: 34 arrangements are enough", x.deepen(0), 4);
        x.setLimit(33);
        Check.throwsIt("21: 33 are too few", STATE, () -> x.deepen(0));
        Check.same("21: searched(0) tells of the one before", x.searched(0), 34);
        Check.same("21: searched(1), too", x.searched(1), 5);
        Check.same("21: and wayAt()", x.wayAt(0), 1);
        Slidingtray line = new Slidingtray();
        line.tray(2, 2, 1);
        line.lay(2);
        line.setLimit(6);
        Check.same("21: six are enough", line.deepen(0), -1);
        line.setLimit(5);
        Check.throwsIt("21: five are too few", STATE, () -> line.deepen(0));
        line.setLimit(1);
        Check.throwsIt("21: one is too few", STATE, () -> line.deepen(0));
        line.lay(0);
        Check.same("21: one is enough at a goal", line.deepen(0), 0);
        Slidingtray ring = small(2);
        ring.setLimit(1000);
        Check.throwsIt("21: round and round without a way", STATE, () -> ring.deepen(3));
    }

    private static void bothEnds() {
        Slidingtray x = small(12);
        Check.same("22: both()", x.both(), 4);
        Check.same("22: its arrangements", x.searched(0), 10);
        Check.same("22: its rings", x.searched(1), 4);
        x.setWeight(1, 9);
        Check.same("22: all weights count as 1", x.both(), 4);
        x.lay(0);
        Check.same("22: both ends are one", x.both(), 0);
        Check.same("22: it is found twice", x.searched(0), 2);
        Check.same("22: no rings", x.searched(1), 0);
        x.move(1, 1);
        Check.same("22: one move", x.both(), 1);
        // both ends, and the two beside the arrangement, of which one is the goal
        Check.same("22: the ring is found whole", x.searched(0), 4);
        Check.same("22: one ring", x.searched(1), 1);
        x.lay(2);
        Check.same("22: no way", x.both(), -1);
        Check.same("22: all were found from both ends", x.searched(0), 24);
        Check.same("22: a ring that has none is not counted", x.searched(1), 12);
        Slidingtray line = new Slidingtray();
        line.tray(2, 2, 1);
        line.lay(2);
        Check.same("22: no way beside a wall", line.both(), -1);
        Check.same("22: its arrangements", line.searched(0), 6);
        Check.same("22: its rings", line.searched(1), 2);
        line.setFree(0, true);
        Check.throwsIt("22: the gap is free", STATE, () -> line.both());
        line.setFree(0, false);
        line.setFree(2, true);
        Check.throwsIt("22: a tile is free", STATE, () -> line.both());
        for (int seed = 0; seed < 20; seed++) {
            Slidingtray y = new Slidingtray();
            y.setLimit(1000);
            y.mix(seed * 31 + 5, 10);
            Check.same("22: as many moves as solve() tells", y.both(), y.solve(3));
        }
    }

    private static void bothEndsWithinTheLimit() {
        Slidingtray x = small(12);
        x.setLimit(10);
        Check.same("22: ten are enough", x.both(), 4);
        x.setLimit(9);
        Check.throwsIt("22: nine are too few, though they have met", STATE, () -> x.both());
        Check.same("22: searched() tells of the one before", x.searched(0), 10);
        x.lay(0);
        x.setLimit(2);
        Check.same("22: two are enough", x.both(), 0);
        x.setLimit(1);
        Check.throwsIt("22: both ends are two", STATE, () -> x.both());
        x.lay(2);
        x.setLimit(24);
        Check.same("22: 24 are enough", x.both(), -1);
        x.setLimit(23);
        Check.throwsIt("22: 23 are too few", STATE, () -> x.both());
        for (int limit = 990; limit <= 1000; limit++) {
            Slidingtray large = new Slidingtray();
            large.setLimit(limit);
            large.lay(2);
            Check.throwsIt("22: no way, by more than " + limit, STATE, () -> large.both());
            large.tray(4, 4, 0);
            large.lay(2);
            Check.throwsIt("22: no way on a large tray, by more than " + limit, STATE, () -> large.both());
            Check.throwsIt("20: no way on a large tray, by more than " + limit, STATE, () -> large.solve(3));
            Check.throwsIt("21: no way on a large tray, by more than " + limit, STATE, () -> large.deepen(3));
        }
    }

    private static void searched() {
        Slidingtray x = small(12);
        for (int what = 0; what < 3; what++) {
            Check.same("23: nothing was searched", x.searched(what), 0);
        }
        Check.throwsIt("23: searched(-1)", ARGUMENT, () -> x.searched(-1));
        Check.throwsIt("23: searched(3)", ARGUMENT, () -> x.searched(3));
        x.deepen(0);
        x.solve(0);
        Check.same("23: states of solve()", x.searched(0), 8);
        Check.same("23: no rounds of solve()", x.searched(1), 0);
        Check.same("23: moves of solve()", x.searched(2), 4);
        x.both();
        Check.same("23: no moves of both()", x.searched(2), 0);
        Check.same("23: rings of both()", x.searched(1), 4);
        x.mix(4, 3);
        x.lay(2);
        x.setGoal();
        x.setWeight(1, 3);
        x.setFree(1, true);
        x.keep(0);
        x.restore(0);
        x.hint();
        x.errors();
        Check.same("23: nothing else changes it", x.searched(0), 10);
        x.setFree(1, false);
        Check.throwsIt("23: a wrong call", ARGUMENT, () -> x.solve(9));
        Check.same("23: nor a wrong call", x.searched(1), 4);
        x.lay(0);
        x.solve(0);
        Check.same("23: no way: all states", x.searched(0), 12);
        Check.same("23: no way: no moves", x.searched(2), 0);
    }

    private static int walk(Slidingtray x) {
        int cost = 0;
        int moves = x.searched(2);
        for (int index = 0; index < moves; index++) {
            cost += x.move(x.wayAt(index), 1);
        }
        Check.throwsIt("24: behind the last move", ELEMENT, () -> x.wayAt(moves));
        Check.same("24: the way leads to the goal", x.far(4), 0);
        return cost;
    }

    private static void waysLeadToTheGoal() {
        for (int seed = 0; seed < 30; seed++) {
            Slidingtray x = new Slidingtray();
            x.setLimit(1000);
            x.tray(2 + seed % 2, 3 - seed % 2, seed % 5 == 0 ? 1 : 0);
            x.setWeight(1 + seed % 3, 1 + seed % 9);
            x.setFree(seed % 4, seed % 3 == 0);
            x.mix(seed, 40);
            x.keep(0);
            int cost = x.solve(seed % 5);
            Check.same("24: the moves cost what solve() told", walk(x), cost);
            x.restore(0);
            x.setLimit(1000);
            try {
                Check.same("24: deepen() tells the same", x.deepen(3), cost);
            } catch (IllegalStateException e) {
                continue;
            }
            Check.same("24: the moves cost what deepen() told", walk(x), cost);
        }
    }

    private static void ways() {
        Slidingtray x = small(12);
        Check.throwsIt("24: nothing was searched", ELEMENT, () -> x.wayAt(0));
        x.solve(0);
        int[] due = {1, 0, 2, 3};
        for (int index = 0; index < 4; index++) {
            Check.same("24: wayAt(" + index + ")", x.wayAt(index), due[index]);
        }
        Check.throwsIt("24: wayAt(4)", ELEMENT, () -> x.wayAt(4));
        Check.throwsIt("24: wayAt(-1)", ELEMENT, () -> x.wayAt(-1));
        Check.throwsIt("24: wayAt(1000)", ELEMENT, () -> x.wayAt(1000));
        x.both();
        Check.same("24: both() leaves the way", x.wayAt(1), 0);
        x.lay(0);
        x.move(0, 1);
        x.deepen(2);
        Check.same("24: the way of deepen()", x.wayAt(0), 3);
        Check.throwsIt("24: it has one move", ELEMENT, () -> x.wayAt(1));
        x.move(1, 1);
        Check.same("24: it stays when moves are made", x.wayAt(0), 3);
        x.lay(2);
        x.solve(0);
        Check.throwsIt("24: no way, no move", ELEMENT, () -> x.wayAt(0));
        // From the farthest arrangement two ways are as cheap: the one that is found first stays.
        x.lay(23);
        x.solve(0);
        int first = x.wayAt(0);
        x.deepen(3);
        Check.same("24: depth first, the moves in their order", x.wayAt(0), 2);
        Check.same("24: a move of the best one", first == 2 || first == 3, true);
        x.lay(0);
        x.solve(0);
        Check.throwsIt("24: a goal, no move", ELEMENT, () -> x.wayAt(0));
    }

    private static void hints() {
        Slidingtray x = small(12);
        Check.same("25: hint()", x.hint(), 1);
        Check.same("25: searched() is told nothing", x.searched(0), 0);
        Check.throwsIt("25: wayAt() is told nothing", ELEMENT, () -> x.wayAt(0));
        Check.same("25: of two the first in order", small(23).hint(), 2);
        Check.same("25: a goal", small(0).hint(), -1);
        Check.same("25: no way", small(2).hint(), -1);
        x.setLimit(1);
        Check.same("25: the limit of searches is another", x.hint(), 1);
        Check.same("25: nothing is moved", x.rank(), 12);
        Check.same("25: nothing to be undone", x.undo(1), 0);
        x.lay(0);
        x.setFree(0, true);
        x.move(1, 1);
        Check.same("25: a free gap", x.hint(), 2);
        x.setFree(3, true);
        Check.same("25: a goal by what is free", x.hint(), -1);
        Slidingtray y = new Slidingtray();
        y.mix(3, 12);
        int steps = y.solve(3);
        for (int step = 0; step < steps; step++) {
            y.move(y.hint(), 1);
        }
        Check.same("25: hints lead to the goal", y.settled(), 1.0f);
    }

    /** What hint() is due to answer, by what solve() tells with the limit 100. */
    private static int dueHint(Slidingtray x) {
        x.setLimit(100);
        int cost = x.solve(3);
        if (cost <= 0) return -1;
        for (int direction = 0; direction < 4; direction++) {
            int price;
            try {
                price = x.move(direction, 1);
            } catch (IllegalStateException e) {
                continue;
            }
            int rest;
            try {
                rest = x.solve(3);
            } finally {
                x.undo(1);
            }
            if (rest + price == cost) return direction;
        }
        return -1;
    }

    private static void hintsByTheirWords() {
        int refused = 0;
        for (int seed = 0; seed < 300; seed++) {
            Slidingtray x = new Slidingtray();
            x.tray(2 + seed % 3, 3 + seed % 2, seed % 7 == 0 ? 2 : 0);
            x.setWeight(1 + seed % 4, 1 + seed % 5);
            x.mix(seed * 1001, 10 + seed % 50);
            int due;
            try {
                due = dueHint(x);
            } catch (IllegalStateException e) {
                refused++;
                x.setLimit(1000);
                Check.throwsIt("25: a search takes more than 100 states", STATE, () -> x.hint());
                continue;
            }
            x.setLimit(1000);
            Check.same("25: hint() of seed " + seed, x.hint(), due);
        }
        Check.holds("25: some hints are refused, most are not", refused > 20 && refused < 200);
    }

    private static void hintsWithinTheirLimit() {
        Slidingtray x = new Slidingtray();
        x.lay(2);
        Check.throwsIt("25: no way, by more than 100 states", STATE, () -> x.hint());
        x.tray(2, 2, 0);
        x.lay(12);
        x.solve(0);
        x.tray(2, 3, 0);
        x.lay(2);
        Check.throwsIt("25: no way on a small tray, by 360 states", STATE, () -> x.hint());
        Check.same("25: nothing is told", x.searched(0), 0);
    }
}
