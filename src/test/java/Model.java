import java.util.ArrayDeque;
import java.util.ArrayList;
import java.util.Arrays;
import java.util.Deque;
import java.util.HashMap;
import java.util.HashSet;
import java.util.List;
import java.util.Map;
import java.util.NoSuchElementException;
import java.util.Set;

/**
 * The document once more, word by word and slowly, with the library's collections: what the class answers is
 * compared with what this one answers. Arrangements are lists: what lies on each cell, -1 for a wall.
 */
final class Model {
    private static final int[] ROW_STEP = {-1, 0, 0, 1};
    private static final int[] COLUMN_STEP = {0, -1, 1, 0};
    private static final class Refused extends RuntimeException {
        private static final long serialVersionUID = 1L;
    }

    private static final class Image {
        List<Integer> lie;
        List<Integer> goal;
        boolean[] free;
        int[] weight;
    }

    private static final class Node {
        long rank;
        int cost;
        int guess;
        boolean taken;
        List<Integer> parent;
        int move;
    }

    private static final class Outcome {
        int cost = -1;
        int states;
        int rounds;
        List<Integer> way = new ArrayList<>();
    }

    private int rows;
    private int columns;
    private int tiles;
    private int limit = 500;
    private List<Integer> lie;
    private List<Integer> goal;
    private boolean[] free;
    private int[] weight;
    private final Deque<Integer> made = new ArrayDeque<>();
    private final Map<Integer, List<Integer>> macros = new HashMap<>();
    private final Map<Integer, Image> images = new HashMap<>();
    private final List<Set<Integer>> parts = new ArrayList<>();
    private final List<Map<List<Integer>, Integer>> tables = new ArrayList<>();
    private int[] told = new int[3];
    private List<Integer> way = new ArrayList<>();
    private Map<List<Integer>, Integer> allCosts;

    Model() {
        tray(3, 3, 0);
    }

    // ---- trays

    int tray(int newRows, int newColumns, int walls) {
        need(newRows >= 2 && newRows <= 4 && newColumns >= 2 && newColumns <= 4);
        int cells = newRows * newColumns;
        need(walls >= 0 && walls < 1 << cells);
        Set<Integer> open = new HashSet<>();
        for (int cell = 0; cell < cells; cell++) {
            if ((walls >> cell & 1) == 0) open.add(cell);
        }
        need(open.size() >= 3);
        Set<Integer> reached = new HashSet<>();
        Deque<Integer> todo = new ArrayDeque<>();
        todo.add(open.iterator().next());
        while (!todo.isEmpty()) {
            int cell = todo.remove();
            if (!open.contains(cell) || !reached.add(cell)) continue;
            if (cell % newColumns > 0) todo.add(cell - 1);
            if (cell % newColumns < newColumns - 1) todo.add(cell + 1);
            todo.add(cell - newColumns);
            todo.add(cell + newColumns);
        }
        need(reached.equals(open));
        rows = newRows;
        columns = newColumns;
        tiles = open.size() - 1;
        lie = new ArrayList<>();
        int next = 1;
        for (int cell = 0; cell < cells; cell++) {
            if (!open.contains(cell)) lie.add(-1);
            else lie.add(next <= tiles ? next++ : 0);
        }
        goal = new ArrayList<>(lie);
        free = new boolean[tiles + 1];
        weight = new int[tiles + 1];
        Arrays.fill(weight, 1);
        made.clear();
        macros.clear();
        images.clear();
        told = new int[3];
        way = new ArrayList<>();
        aimChanged();
        return tiles;
    }

    int lay(long rank) {
        need(rank >= 0 && rank < factorial(tiles + 1));
        lie = laid(rank);
        made.clear();
        return lie.indexOf(0);
    }

    int mix(int seed, int many) {
        need(many >= 0 && many <= 200);
        int drawn = seed;
        for (int count = 0; count < many; count++) {
            List<Integer> choices = movesFrom(lie);
            drawn = drawn * 1103515245 + 12345;
            lie = behind(lie, choices.get((drawn >>> 16) % choices.size()));
        }
        made.clear();
        return lie.indexOf(0);
    }

    long setGoal() {
        goal = new ArrayList<>(lie);
        aimChanged();
        return rank();
    }

    boolean setFree(int tile, boolean isFree) {
        needIndex(tile >= 0 && tile <= tiles);
        boolean was = free[tile];
        free[tile] = isFree;
        aimChanged();
        return was;
    }

    int setWeight(int tile, int newWeight) {
        needIndex(tile >= 1 && tile <= tiles);
        need(newWeight >= 1 && newWeight <= 9);
        int was = weight[tile];
        weight[tile] = newWeight;
        aimChanged();
        return was;
    }

    int setLimit(int newLimit) {
        need(newLimit >= 1 && newLimit <= 1000);
        int was = limit;
        limit = newLimit;
        return was;
    }

    // ---- moves

    int move(int direction, int many) {
        need(direction >= 0 && direction <= 3 && many >= 1 && many <= 3);
        List<Integer> after = lie;
        int cost = 0;
        for (int count = 0; count < many; count++) {
            needState(movesFrom(after).contains(direction));
            cost += costOf(after, direction);
            after = behind(after, direction);
        }
        lie = after;
        for (int count = 0; count < many; count++) {
            remember(direction);
        }
        return cost;
    }

    int undo(int many) {
        need(many >= 1 && many <= 200);
        int undone = 0;
        while (undone < many && !made.isEmpty()) {
            lie = behind(lie, 3 - made.removeLast());
            undone++;
        }
        return undone;
    }

    int setMacro(int macro, long moves) {
        needIndex(macro >= 0 && macro <= 3);
        List<Integer> list = new ArrayList<>();
        for (int shift = 56; shift >= 0; shift -= 8) {
            char letter = (char) (moves >> shift & 0xff);
            if (letter == 0) continue;
            need("ulrd".indexOf(letter) >= 0);
            list.add("ulrd".indexOf(letter));
        }
        macros.put(macro, list);
        return list.size();
    }

    int play(int macro, int times) {
        needIndex(macro >= 0 && macro <= 3);
        need(times >= 1 && times <= 20);
        List<Integer> list = macros.getOrDefault(macro, List.of());
        if (list.isEmpty()) throw new NoSuchElementException();
        int count = 0;
        for (int time = 0; time < times; time++) {
            for (int direction : list) {
                if (!movesFrom(lie).contains(direction)) return count;
                lie = behind(lie, direction);
                remember(direction);
                count++;
            }
        }
        return count;
    }

    private void remember(int direction) {
        made.addLast(direction);
        if (made.size() > 200) made.removeFirst();
    }

    long keep(int image) {
        needIndex(image == 0 || image == 1);
        Image kept = new Image();
        kept.lie = new ArrayList<>(lie);
        kept.goal = new ArrayList<>(goal);
        kept.free = free.clone();
        kept.weight = weight.clone();
        images.put(image, kept);
        return rank();
    }

    int restore(int image) {
        needIndex(image == 0 || image == 1);
        Image kept = images.get(image);
        needState(kept != null);
        lie = new ArrayList<>(kept.lie);
        goal = new ArrayList<>(kept.goal);
        free = kept.free.clone();
        weight = kept.weight.clone();
        made.clear();
        aimChanged();
        return lie.indexOf(0);
    }

    // ---- questions

    int tileAt(int cell) {
        needIndex(cell >= 0 && cell < rows * columns);
        return lie.get(cell);
    }

    long rank() {
        return rankOf(lie);
    }

    int inversions() {
        return inversionsOf(lie);
    }

    boolean reaches() {
        needState(!lie.contains(-1) && !somethingFree());
        int from = lie.indexOf(0);
        int to = goal.indexOf(0);
        int way = Math.abs(from / columns - to / columns) + Math.abs(from % columns - to % columns);
        return (inversionsOf(lie) - inversionsOf(goal) + way) % 2 == 0;
    }

    int estimate(int estimate) {
        need(estimate >= 0 && estimate <= 4);
        return estimateOf(lie, estimate);
    }

    // ---- search

    int solve(int estimate) {
        need(estimate >= 0 && estimate <= 4);
        try {
            tell(bestFirst(lie, estimate, limit));
        } catch (Refused e) {
            throw new IllegalStateException();
        }
        return latest.cost;
    }

    int deepen(int estimate) {
        need(estimate >= 0 && estimate <= 4);
        try {
            tell(deepening(estimate));
        } catch (Refused e) {
            throw new IllegalStateException();
        }
        return latest.cost;
    }

    private Outcome latest;

    private void tell(Outcome outcome) {
        latest = outcome;
        told = new int[] {outcome.states, outcome.rounds, outcome.way.size()};
        way = outcome.way;
    }

    int both() {
        needState(!somethingFree());
        List<Set<List<Integer>>> found = List.of(new HashSet<>(), new HashSet<>());
        List<Set<List<Integer>>> ring = new ArrayList<>(List.of(new HashSet<>(), new HashSet<>()));
        for (int end = 0; end < 2; end++) {
            found.get(end).add(end == 0 ? lie : goal);
            ring.get(end).add(end == 0 ? lie : goal);
        }
        int grown = 0;
        while (true) {
            needState(found.get(0).size() + found.get(1).size() <= limit);
            Set<List<Integer>> shared = new HashSet<>(found.get(0));
            shared.retainAll(found.get(1));
            if (!shared.isEmpty()) break;
            int end = grown % 2;
            Set<List<Integer>> next = new HashSet<>();
            for (List<Integer> state : ring.get(end)) {
                for (int direction : movesFrom(state)) {
                    next.add(behind(state, direction));
                }
            }
            next.removeAll(found.get(end));
            if (next.isEmpty()) {
                told = new int[] {found.get(0).size() + found.get(1).size(), grown, 0};
                return -1;
            }
            found.get(end).addAll(next);
            ring.set(end, next);
            grown++;
        }
        told = new int[] {found.get(0).size() + found.get(1).size(), grown, 0};
        return grown;
    }

    int searched(int what) {
        need(what >= 0 && what <= 2);
        return told[what];
    }

    int wayAt(int index) {
        if (index < 0 || index >= way.size()) throw new NoSuchElementException();
        return way.get(index);
    }

    int hint() {
        try {
            int cost = bestFirst(lie, 3, 100).cost;
            if (cost == -1 || isGoal(lie)) return -1;
            for (int direction : movesFrom(lie)) {
                int rest = bestFirst(behind(lie, direction), 3, 100).cost;
                if (rest == cost - costOf(lie, direction)) return direction;
            }
            return -1;
        } catch (Refused e) {
            throw new IllegalStateException();
        }
    }

    private Outcome bestFirst(List<Integer> start, int estimate, int most) {
        Map<List<Integer>, Node> states = new HashMap<>();
        Map<List<Integer>, Node> waiting = new HashMap<>();
        Outcome outcome = new Outcome();
        come(states, waiting, start, estimate, null, -1, 0);
        while (!waiting.isEmpty()) {
            if (outcome.states == most) throw new Refused();
            List<Integer> best = null;
            for (List<Integer> state : waiting.keySet()) {
                if (best == null || isBetter(waiting.get(state), waiting.get(best))) best = state;
            }
            Node node = waiting.remove(best);
            node.taken = true;
            outcome.states++;
            if (isGoal(best)) {
                outcome.cost = node.cost;
                for (Node at = node; at.parent != null; at = states.get(at.parent)) {
                    outcome.way.add(0, at.move);
                }
                return outcome;
            }
            for (int direction : movesFrom(best)) {
                come(states, waiting, behind(best, direction), estimate, best, direction,
                        node.cost + costOf(best, direction));
            }
        }
        return outcome;
    }

    private static boolean isBetter(Node node, Node other) {
        int sum = node.cost + node.guess;
        int otherSum = other.cost + other.guess;
        if (sum != otherSum) return sum < otherSum;
        if (node.guess != other.guess) return node.guess < other.guess;
        return node.rank < other.rank;
    }

    private void come(Map<List<Integer>, Node> states, Map<List<Integer>, Node> waiting, List<Integer> state,
            int estimate, List<Integer> parent, int move, int cost) {
        Node node = states.get(state);
        if (node == null) {
            node = new Node();
            node.rank = rankOf(state);
            node.guess = estimateOf(state, estimate);
            node.cost = Integer.MAX_VALUE;
            states.put(state, node);
            waiting.put(state, node);
        }
        if (cost >= node.cost) return;
        if (node.taken) throw new AssertionError("a taken state became cheaper");
        node.cost = cost;
        node.parent = parent;
        node.move = move;
    }

    private Outcome deepening(int estimate) {
        Outcome outcome = new Outcome();
        int bound = estimateOf(lie, estimate);
        while (true) {
            outcome.rounds++;
            nextBound = Integer.MAX_VALUE;
            if (dive(lie, 0, bound, estimate, outcome)) return outcome;
            outcome.way.clear();
            if (nextBound == Integer.MAX_VALUE) return outcome;
            bound = nextBound;
        }
    }

    private int nextBound;

    private boolean dive(List<Integer> state, int cost, int bound, int estimate, Outcome outcome) {
        if (outcome.states == limit) throw new Refused();
        outcome.states++;
        int sum = cost + estimateOf(state, estimate);
        if (sum > bound) {
            nextBound = Math.min(nextBound, sum);
            return false;
        }
        if (isGoal(state)) {
            outcome.cost = cost;
            return true;
        }
        int before = outcome.way.isEmpty() ? -1 : outcome.way.get(outcome.way.size() - 1);
        for (int direction : movesFrom(state)) {
            if (before != -1 && direction == 3 - before) continue;
            outcome.way.add(direction);
            if (dive(behind(state, direction), cost + costOf(state, direction), bound, estimate, outcome)) return true;
            outcome.way.remove(outcome.way.size() - 1);
        }
        return false;
    }

    // ---- all states

    int far(int what) {
        need(what >= 0 && what <= 5);
        needState(tiles + 1 <= 6);
        Map<List<Integer>, Integer> costs = allCosts();
        int greatest = 0;
        for (int cost : costs.values()) {
            greatest = Math.max(greatest, cost);
        }
        int many = 0;
        long least = Long.MAX_VALUE;
        for (List<Integer> state : costs.keySet()) {
            if (costs.get(state) != greatest) continue;
            many++;
            least = Math.min(least, rankOf(state));
        }
        switch (what) {
            case 0: return costs.size();
            case 1: return greatest;
            case 2: return many;
            case 3: return (int) least;
            case 4: return costs.getOrDefault(lie, -1);
            default: return costs.containsKey(lie) ? waysFrom(lie, costs, new HashMap<>()) : 0;
        }
    }

    int onlyWay(int cost) {
        need(cost >= 0);
        needState(tiles + 1 <= 6);
        Map<List<Integer>, Integer> costs = allCosts();
        Map<List<Integer>, Integer> ways = new HashMap<>();
        long least = Long.MAX_VALUE;
        for (List<Integer> state : costs.keySet()) {
            if (costs.get(state) == cost && waysFrom(state, costs, ways) == 1) least = Math.min(least, rankOf(state));
        }
        return least == Long.MAX_VALUE ? -1 : (int) least;
    }

    boolean isFair(int estimate) {
        need(estimate >= 0 && estimate <= 4);
        needState(tiles + 1 <= 6);
        Map<List<Integer>, Integer> costs = allCosts();
        for (List<Integer> state : costs.keySet()) {
            int guess = estimateOf(state, estimate);
            if (guess > costs.get(state)) return false;
            for (int direction : movesFrom(state)) {
                int fall = guess - estimateOf(behind(state, direction), estimate);
                if (fall > costOf(state, direction)) return false;
            }
        }
        return true;
    }

    /** The costs are made less until nothing more can be. */
    private Map<List<Integer>, Integer> allCosts() {
        if (allCosts != null) return allCosts;
        allCosts = new HashMap<>();
        for (long rank = 0; rank < factorial(tiles + 1); rank++) {
            if (isGoal(laid(rank))) allCosts.put(laid(rank), 0);
        }
        boolean goesOn = true;
        while (goesOn) {
            goesOn = false;
            for (List<Integer> state : new ArrayList<>(allCosts.keySet())) {
                for (int direction : movesFrom(state)) {
                    List<Integer> next = behind(state, direction);
                    int cost = allCosts.get(state) + costOf(state, direction);
                    if (allCosts.getOrDefault(next, Integer.MAX_VALUE) <= cost) continue;
                    allCosts.put(next, cost);
                    goesOn = true;
                }
            }
        }
        return allCosts;
    }

    private int waysFrom(List<Integer> state, Map<List<Integer>, Integer> costs, Map<List<Integer>, Integer> known) {
        if (isGoal(state)) return 1;
        if (known.containsKey(state)) return known.get(state);
        long ways = 0;
        for (int direction : movesFrom(state)) {
            List<Integer> next = behind(state, direction);
            if (costs.get(next) + costOf(state, direction) == costs.get(state)) ways += waysFrom(next, costs, known);
        }
        known.put(state, (int) Math.min(1000000, ways));
        return known.get(state);
    }

    // ---- parts

    int part(int bits) {
        need(bits != 0);
        Set<Integer> part = new HashSet<>();
        for (int bit = 0; bit < 32; bit++) {
            if ((bits >> bit & 1) == 0) continue;
            need(bit >= 1 && bit <= tiles && !free[bit]);
            part.add(bit);
        }
        need(part.size() <= 3);
        needState(parts.size() < 2);
        for (Set<Integer> other : parts) {
            for (int tile : part) {
                needState(!other.contains(tile));
            }
        }
        needState(tiles + 1 <= 9);
        // The arrangements as they look when all other tiles are alike.
        Map<List<Integer>, Integer> table = new HashMap<>();
        Deque<List<Integer>> todo = new ArrayDeque<>();
        List<Integer> home = veiled(goal, part);
        home.set(goal.indexOf(0), 99);
        for (int cell = 0; cell < rows * columns; cell++) {
            if (home.get(cell) != 99) continue;
            List<Integer> start = new ArrayList<>(home);
            start.set(cell, 0);
            table.put(start, 0);
            todo.add(start);
        }
        while (!todo.isEmpty()) {
            List<Integer> state = todo.remove();
            for (int direction : movesFrom(state)) {
                int tile = state.get(neighbour(state.indexOf(0), direction));
                int cost = table.get(state) + (part.contains(tile) ? weight[tile] : 0);
                List<Integer> next = behind(state, direction);
                if (table.getOrDefault(next, Integer.MAX_VALUE) <= cost) continue;
                table.put(next, cost);
                todo.add(next);
            }
        }
        parts.add(part);
        tables.add(table);
        return table.size();
    }

    private static List<Integer> veiled(List<Integer> state, Set<Integer> part) {
        List<Integer> view = new ArrayList<>();
        for (int tile : state) {
            view.add(tile <= 0 || part.contains(tile) ? tile : 99);
        }
        return view;
    }

    // ---- measures

    double meanWeight() {
        int sum = 0;
        for (int tile = 1; tile <= tiles; tile++) {
            sum += weight[tile];
        }
        return (double) sum / (double) tiles;
    }

    float settled() {
        int there = 0;
        int all = 0;
        for (int tile = 1; tile <= tiles; tile++) {
            if (free[tile]) continue;
            all++;
            if (lie.indexOf(tile) == goal.indexOf(tile)) there++;
        }
        return all == 0 ? 0.0f : (float) there / (float) all;
    }

    int errors() {
        return 0;
    }

    // ---- what the document's words mean

    private void aimChanged() {
        parts.clear();
        tables.clear();
        allCosts = null;
    }

    private static void need(boolean isSo) {
        if (!isSo) throw new IllegalArgumentException();
    }

    private static void needIndex(boolean isSo) {
        if (!isSo) throw new IndexOutOfBoundsException();
    }

    private static void needState(boolean isSo) {
        if (!isSo) throw new IllegalStateException();
    }

    private static long factorial(int number) {
        return number <= 1 ? 1 : number * factorial(number - 1);
    }

    private boolean somethingFree() {
        for (boolean is : free) {
            if (is) return true;
        }
        return false;
    }

    /** What lies on the open cells, the gap as the greatest tile. */
    private List<Integer> values(List<Integer> state) {
        List<Integer> values = new ArrayList<>();
        for (int tile : state) {
            if (tile != -1) values.add(tile == 0 ? tiles + 1 : tile);
        }
        return values;
    }

    private int inversionsOf(List<Integer> state) {
        List<Integer> values = values(state);
        int count = 0;
        for (int low = 0; low < values.size(); low++) {
            for (int high = low + 1; high < values.size(); high++) {
                if (values.get(low) > values.get(high)) count++;
            }
        }
        return count;
    }

    private long rankOf(List<Integer> state) {
        List<Integer> values = values(state);
        long rank = 0;
        for (int low = 0; low < values.size(); low++) {
            int less = 0;
            for (int high = low + 1; high < values.size(); high++) {
                if (values.get(high) < values.get(low)) less++;
            }
            rank += less * factorial(values.size() - 1 - low);
        }
        return rank;
    }

    private List<Integer> laid(long rank) {
        List<Integer> left = new ArrayList<>();
        for (int tile = 1; tile <= tiles; tile++) {
            left.add(tile);
        }
        left.add(0);
        List<Integer> state = new ArrayList<>();
        long rest = rank;
        for (int old : lie) {
            if (old == -1) {
                state.add(-1);
                continue;
            }
            long block = factorial(left.size() - 1);
            state.add(left.remove((int) (rest / block)));
            rest %= block;
        }
        return state;
    }

    private int neighbour(int cell, int direction) {
        int row = cell / columns + ROW_STEP[direction];
        int column = cell % columns + COLUMN_STEP[direction];
        if (row < 0 || row >= rows || column < 0 || column >= columns) return -1;
        return lie.get(row * columns + column) == -1 ? -1 : row * columns + column;
    }

    private List<Integer> movesFrom(List<Integer> state) {
        List<Integer> moves = new ArrayList<>();
        for (int direction = 0; direction < 4; direction++) {
            if (neighbour(state.indexOf(0), direction) != -1) moves.add(direction);
        }
        return moves;
    }

    private List<Integer> behind(List<Integer> state, int direction) {
        int gap = state.indexOf(0);
        int cell = neighbour(gap, direction);
        List<Integer> next = new ArrayList<>(state);
        next.set(gap, state.get(cell));
        next.set(cell, 0);
        return next;
    }

    private int costOf(List<Integer> state, int direction) {
        return weight[state.get(neighbour(state.indexOf(0), direction))];
    }

    private boolean isGoal(List<Integer> state) {
        for (int tile = 0; tile <= tiles; tile++) {
            if (!free[tile] && state.indexOf(tile) != goal.indexOf(tile)) return false;
        }
        return true;
    }

    private int estimateOf(List<Integer> state, int estimate) {
        int sum = 0;
        for (int tile = 1; tile <= tiles; tile++) {
            if (free[tile]) continue;
            int from = state.indexOf(tile);
            int to = goal.indexOf(tile);
            if (estimate == 1 && from != to) sum += weight[tile];
            if (estimate == 2 || estimate == 3) sum += weight[tile] * steps(from, to);
        }
        if (estimate == 3) {
            for (int row = 0; row < rows; row++) {
                List<Integer> cells = new ArrayList<>();
                for (int column = 0; column < columns; column++) {
                    cells.add(row * columns + column);
                }
                sum += 2 * lineAdds(state, cells);
            }
            for (int column = 0; column < columns; column++) {
                List<Integer> cells = new ArrayList<>();
                for (int row = 0; row < rows; row++) {
                    cells.add(row * columns + column);
                }
                sum += 2 * lineAdds(state, cells);
            }
        }
        if (estimate == 4) {
            for (int index = 0; index < parts.size(); index++) {
                sum += tables.get(index).getOrDefault(veiled(state, parts.get(index)), 0);
            }
        }
        return sum;
    }

    private int steps(int from, int to) {
        Set<Integer> reached = new HashSet<>(Set.of(from));
        int steps = 0;
        while (!reached.contains(to)) {
            for (int cell : new ArrayList<>(reached)) {
                for (int direction = 0; direction < 4; direction++) {
                    if (neighbour(cell, direction) != -1) reached.add(neighbour(cell, direction));
                }
            }
            steps++;
        }
        return steps;
    }

    private int lineAdds(List<Integer> state, List<Integer> cells) {
        List<Integer> tilesThere = new ArrayList<>();
        for (int cell : cells) {
            int tile = state.get(cell);
            if (tile == -1) return 0;
            if (tile > 0 && !free[tile] && cells.contains(goal.indexOf(tile))) tilesThere.add(tile);
        }
        return leastTakenOut(state, tilesThere);
    }

    /** Of two that are in each other's way one must go: both are tried. */
    private int leastTakenOut(List<Integer> state, List<Integer> left) {
        for (int one : left) {
            for (int other : left) {
                boolean isBefore = state.indexOf(one) < state.indexOf(other);
                boolean belongsBefore = goal.indexOf(one) < goal.indexOf(other);
                if (one == other || isBefore == belongsBefore) continue;
                List<Integer> withoutOne = new ArrayList<>(left);
                withoutOne.remove((Integer) one);
                List<Integer> withoutOther = new ArrayList<>(left);
                withoutOther.remove((Integer) other);
                return Math.min(weight[one] + leastTakenOut(state, withoutOne),
                        weight[other] + leastTakenOut(state, withoutOther));
            }
        }
        return 0;
    }
}
