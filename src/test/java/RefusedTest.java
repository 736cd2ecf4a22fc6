import java.util.NoSuchElementException;

/**
 * "If several exceptions apply to a call, the one that is listed first is thrown; a call that throws an exception
 * changes nothing." Each call that throws is made on one of two objects with the same calls behind them; then both
 * are asked for all that they tell. So are the calls that only ask.
 */
public final class RefusedTest {
    private static final Class<IllegalArgumentException> ARGUMENT = IllegalArgumentException.class;
    private static final Class<IndexOutOfBoundsException> INDEX = IndexOutOfBoundsException.class;
    private static final Class<IllegalStateException> STATE = IllegalStateException.class;
    private static final Class<NoSuchElementException> ELEMENT = NoSuchElementException.class;
    private static final int LEAST = Integer.MIN_VALUE;
    private static final int GREATEST = Integer.MAX_VALUE;

    /** A call on an object that is given to it. */
    private interface Deed {
        Object on(Slidingtray x);
    }

    /** What makes an object what it is ahead of the call that is tested. */
    private static Deed past;
    private static String due;

    public static void main(String[] args) {
        after(RefusedTest::smallTray);
        trayCalls();
        limitAndMixCalls();
        moveCalls();
        macroCalls();
        imageCalls();
        questionCalls();
        searchCalls();
        smallTrayCalls();
        onePartCalls();
        after(RefusedTest::fullParts);
        partCalls();
        questionCalls();
        smallTrayCalls();
        after(RefusedTest::largeTray);
        trayCalls();
        largeTrayCalls();
        limitAndMixCalls();
        after(RefusedTest::walledTray);
        walledTrayCalls();
        limitAndMixCalls();
        Check.end();
    }

    private static void after(Deed deed) {
        past = deed;
        due = told(made());
    }

    private static Slidingtray made() {
        Slidingtray x = new Slidingtray();
        past.on(x);
        return x;
    }

    private static void refused(String what, Class<? extends RuntimeException> want, Deed deed) {
        Slidingtray x = made();
        Check.throwsIt(what, want, () -> deed.on(x));
        Check.holds(what + " changes something", told(x).equals(due));
    }

    private static void asks(String what, Deed deed) {
        Slidingtray x = made();
        deed.on(x);
        Check.holds(what + " changes something", told(x).equals(due));
    }

    // ---- what is behind the objects

    /** Two rows, three columns: moves, macros, an image, weights, what is free, a part, a way that was found. */
    private static Object smallTray(Slidingtray x) {
        x.tray(2, 3, 0);
        x.setLimit(700);
        x.setWeight(2, 4);
        x.keep(1);
        x.mix(5, 9);
        x.setGoal();
        x.setMacro(1, 'u');
        x.setMacro(2, (long) 'l' << 32 | 'r');
        x.mix(8, 6);
        x.part(2 | 4);
        x.play(2, 2);
        x.move(x.tileAt(0) == 0 || x.tileAt(1) == 0 || x.tileAt(2) == 0 ? 3 : 0, 1);
        x.deepen(3);
        return x.both();
    }

    /** The same, with as many parts as there may be, and something free. */
    private static Object fullParts(Slidingtray x) {
        smallTray(x);
        x.setFree(0, true);
        x.setFree(5, true);
        x.part(2 | 4);
        x.part(8);
        return x.solve(3);
    }

    private static Object largeTray(Slidingtray x) {
        x.tray(4, 4, 0);
        x.setLimit(30);
        x.mix(3, 30);
        x.keep(0);
        x.setMacro(0, 'd');
        x.setMacro(3, 'l');
        x.setGoal();
        x.setWeight(15, 9);
        x.play(3, 2);
        x.play(0, 1);
        return x.solve(2);
    }

    private static Object walledTray(Slidingtray x) {
        x.tray(3, 4, 0b0000_0000_0011);
        x.setFree(9, true);
        x.setLimit(40);
        x.keep(0);
        x.move(1, 1);
        x.setGoal();
        x.move(0, 2);
        return x.deepen(1);
    }

    // ---- the calls

    private static void trayCalls() {
        int[][] trays = {
            {1, 2, 0}, {2, 1, 0}, {5, 2, 0}, {2, 5, 0}, {LEAST, 3, 0}, {3, GREATEST, 0}, {2, 2, 16}, {4, 4, 1 << 16},
            {3, 3, -1}, {3, 3, LEAST}, {2, 2, 3}, {2, 2, 15}, {3, 3, 0b000111000}, {1, 1, -1},
        };
        for (int[] tray : trays) {
            refused("2: tray(" + tray[0] + ", " + tray[1] + ", " + tray[2] + ")", ARGUMENT,
                    x -> x.tray(tray[0], tray[1], tray[2]));
        }
    }

    private static void limitAndMixCalls() {
        int[] limits = {0, 1001, -1, LEAST, GREATEST};
        for (int limit : limits) {
            refused("8: setLimit(" + limit + ")", ARGUMENT, x -> x.setLimit(limit));
        }
        int[] manies = {-1, 201, LEAST, GREATEST};
        for (int many : manies) {
            refused("4: mix(7, " + many + ")", ARGUMENT, x -> x.mix(7, many));
        }
        int[] undone = {0, 201, -1, LEAST, GREATEST};
        for (int many : undone) {
            refused("10: undo(" + many + ")", ARGUMENT, x -> x.undo(many));
        }
        refused("3: lay(-1)", ARGUMENT, x -> x.lay(-1));
        refused("3: lay(the least)", ARGUMENT, x -> x.lay(Long.MIN_VALUE));
        refused("3: lay(the greatest)", ARGUMENT, x -> x.lay(Long.MAX_VALUE));
    }

    private static void moveCalls() {
        refused("3: lay(720)", ARGUMENT, x -> x.lay(720));
        int[][] wrong = {{-1, 1}, {4, 1}, {0, 0}, {0, 4}, {3, -1}, {LEAST, 1}, {GREATEST, 1}, {0, LEAST}, {0, GREATEST},
            {-1, 0}, {4, 4}};
        for (int[] move : wrong) {
            refused("9: move(" + move[0] + ", " + move[1] + ")", ARGUMENT, x -> x.move(move[0], move[1]));
        }
        for (int direction = 0; direction < 4; direction++) {
            int to = direction;
            refused("9: move(" + to + ", 3)", STATE, x -> x.move(to, 3));
            refused("9: move(" + to + ", 4), both apply", ARGUMENT, x -> x.move(to, 4));
        }
        int[] tiles = {-1, 6, LEAST, GREATEST, 32};
        for (int tile : tiles) {
            refused("6: setFree(" + tile + ", true)", INDEX, x -> x.setFree(tile, true));
            refused("6: setFree(" + tile + ", false)", INDEX, x -> x.setFree(tile, false));
            refused("7: setWeight(" + tile + ", 2)", INDEX, x -> x.setWeight(tile, 2));
            refused("7: setWeight(" + tile + ", 0), both apply", INDEX, x -> x.setWeight(tile, 0));
        }
        refused("7: setWeight(0, 1)", INDEX, x -> x.setWeight(0, 1));
        refused("7: setWeight(0, 10), both apply", INDEX, x -> x.setWeight(0, 10));
        int[] weights = {0, 10, -1, LEAST, GREATEST};
        for (int weight : weights) {
            refused("7: setWeight(1, " + weight + ")", ARGUMENT, x -> x.setWeight(1, weight));
            refused("7: setWeight(5, " + weight + ")", ARGUMENT, x -> x.setWeight(5, weight));
        }
    }

    private static void macroCalls() {
        int[] macros = {-1, 4, LEAST, GREATEST};
        for (int macro : macros) {
            refused("11: setMacro(" + macro + ", u)", INDEX, x -> x.setMacro(macro, 'u'));
            refused("11: setMacro(" + macro + ", x), both apply", INDEX, x -> x.setMacro(macro, 'x'));
            refused("12: play(" + macro + ", 1)", INDEX, x -> x.play(macro, 1));
            refused("12: play(" + macro + ", 0), both apply", INDEX, x -> x.play(macro, 0));
        }
        for (int index = 0; index < 8; index++) {
            int shift = 8 * index;
            long moves = 0x756C72646C75726CL ^ 1L << shift + 7;
            refused("11: a wrong byte at " + index, ARGUMENT, x -> x.setMacro(1, moves));
            refused("11: a byte of 1 at " + index, ARGUMENT, x -> x.setMacro(2, 1L << shift));
        }
        int[] times = {0, 21, -1, LEAST, GREATEST};
        for (int time : times) {
            refused("12: play(1, " + time + ")", ARGUMENT, x -> x.play(1, time));
            refused("12: play(0, " + time + ") of no moves, both apply", ARGUMENT, x -> x.play(0, time));
        }
        refused("12: play(0, 1) of no moves", ELEMENT, x -> x.play(0, 1));
        refused("12: play(3, 20) of no moves", ELEMENT, x -> x.play(3, 20));
    }

    private static void imageCalls() {
        int[] images = {-1, 2, LEAST, GREATEST};
        for (int image : images) {
            refused("13: keep(" + image + ")", INDEX, x -> x.keep(image));
            refused("14: restore(" + image + "), both apply", INDEX, x -> x.restore(image));
        }
        refused("14: restore(0) of none", STATE, x -> x.restore(0));
    }

    private static void questionCalls() {
        int[] cells = {-1, 6, 15, 16, LEAST, GREATEST};
        for (int cell : cells) {
            refused("15: tileAt(" + cell + ")", INDEX, x -> x.tileAt(cell));
        }
        int[] estimates = {-1, 5, LEAST, GREATEST};
        for (int estimate : estimates) {
            refused("19: estimate(" + estimate + ")", ARGUMENT, x -> x.estimate(estimate));
        }
        asks("15: tileAt(0)", x -> x.tileAt(0));
        asks("16: rank()", x -> x.rank());
        asks("17: inversions()", x -> x.inversions());
        asks("30: meanWeight()", x -> x.meanWeight());
        asks("31: settled()", x -> x.settled());
        asks("32: errors()", x -> x.errors());
        asks("25: hint()", x -> x.hint());
        for (int what = 0; what < 5; what++) {
            int index = what;
            asks("19: estimate(" + what + ")", x -> x.estimate(index));
        }
        int[] whats = {-1, 3, LEAST, GREATEST};
        for (int what : whats) {
            refused("23: searched(" + what + ")", ARGUMENT, x -> x.searched(what));
        }
        int[] indexes = {-1, 1000, LEAST, GREATEST};
        for (int index : indexes) {
            refused("24: wayAt(" + index + ")", ELEMENT, x -> x.wayAt(index));
        }
        asks("23: searched(0)", x -> x.searched(0));
        asks("24: wayAt(0)", x -> x.wayAt(0));
    }

    private static void searchCalls() {
        int[] estimates = {-1, 5, LEAST, GREATEST};
        for (int estimate : estimates) {
            refused("20: solve(" + estimate + ")", ARGUMENT, x -> x.solve(estimate));
            refused("21: deepen(" + estimate + ")", ARGUMENT, x -> x.deepen(estimate));
        }
        asks("18: reaches()", x -> x.reaches());
    }

    private static void smallTrayCalls() {
        int[] whats = {-1, 6, LEAST, GREATEST};
        for (int what : whats) {
            refused("26: far(" + what + ")", ARGUMENT, x -> x.far(what));
        }
        for (int what = 0; what < 6; what++) {
            int index = what;
            asks("26: far(" + what + ")", x -> x.far(index));
        }
        refused("27: onlyWay(-1)", ARGUMENT, x -> x.onlyWay(-1));
        refused("27: onlyWay(the least)", ARGUMENT, x -> x.onlyWay(LEAST));
        asks("27: onlyWay(3)", x -> x.onlyWay(3));
        asks("27: onlyWay(the greatest)", x -> x.onlyWay(GREATEST));
        refused("28: isFair(-1)", ARGUMENT, x -> x.isFair(-1));
        refused("28: isFair(5)", ARGUMENT, x -> x.isFair(5));
        for (int what = 0; what < 5; what++) {
            int index = what;
            asks("28: isFair(" + what + ")", x -> x.isFair(index));
        }
    }

    private static void partCalls() {
        int[] wrong = {0, 1, 1 | 16, 32, 16 | 32, 64, 16 | 64, LEAST, -1, GREATEST, 2 | 4 | 8 | 16};
        for (int tiles : wrong) {
            refused("29: part(" + tiles + ")", ARGUMENT, x -> x.part(tiles));
        }
        refused("29: a third part", STATE, x -> x.part(16));
        refused("29: a third part with a tile that is in one", STATE, x -> x.part(2));
        refused("22: both(), something is free", STATE, x -> x.both());
        refused("18: reaches(), something is free", STATE, x -> x.reaches());
    }

    private static void onePartCalls() {
        refused("29: the same part once more", STATE, x -> x.part(2 | 4));
        refused("29: a tile is in the part", STATE, x -> x.part(4 | 8));
        refused("29: the other tile is in it", STATE, x -> x.part(2 | 16 | 32));
        refused("29: a tile is in it, and there is no such tile, both apply", ARGUMENT, x -> x.part(2 | 64));
        refused("29: tiles are in it, and they are four, both apply", ARGUMENT, x -> x.part(2 | 4 | 8 | 16));
        refused("29: none", ARGUMENT, x -> x.part(0));
    }

    private static void largeTrayCalls() {
        refused("3: lay(16!)", ARGUMENT, x -> x.lay(20922789888000L));
        refused("6: setFree(16, true)", INDEX, x -> x.setFree(16, true));
        refused("7: setWeight(16, 1)", INDEX, x -> x.setWeight(16, 1));
        refused("15: tileAt(16)", INDEX, x -> x.tileAt(16));
        refused("29: part(2) of 16 open cells", STATE, x -> x.part(2));
        refused("29: part(1 << 15) of 16 open cells", STATE, x -> x.part(1 << 15));
        refused("29: part(1 << 16), both apply", ARGUMENT, x -> x.part(1 << 16));
        refused("29: part(0), both apply", ARGUMENT, x -> x.part(0));
        refused("14: restore(1) of none", STATE, x -> x.restore(1));
        refused("26: far(0)", STATE, x -> x.far(0));
        refused("26: far(6), both apply", ARGUMENT, x -> x.far(6));
        refused("27: onlyWay(0)", STATE, x -> x.onlyWay(0));
        refused("27: onlyWay(-1), both apply", ARGUMENT, x -> x.onlyWay(-1));
        refused("28: isFair(0)", STATE, x -> x.isFair(0));
        refused("28: isFair(5), both apply", ARGUMENT, x -> x.isFair(5));
        asks("32: errors()", x -> x.errors());
        asks("18: reaches()", x -> x.reaches());
    }

    private static void walledTrayCalls() {
        refused("18: reaches(), a wall and something free", STATE, x -> x.reaches());
        refused("22: both(), something is free", STATE, x -> x.both());
        refused("3: lay(10!)", ARGUMENT, x -> x.lay(3628800));
        refused("29: part(2) of ten open cells", STATE, x -> x.part(2));
        refused("29: part(1 << 9) that is free, both apply", ARGUMENT, x -> x.part(1 << 9));
        refused("26: far(5)", STATE, x -> x.far(5));
        refused("20: solve(5)", ARGUMENT, x -> x.solve(5));
        refused("21: deepen(5)", ARGUMENT, x -> x.deepen(5));
        refused("9: over a wall", STATE, x -> x.move(1, 3));
        asks("25: hint()", x -> x.hint());
        asks("32: errors()", x -> x.errors());
    }

    // ---- all that an object tells

    private static String told(Slidingtray x) {
        StringBuilder all = new StringBuilder();
        lookAt(x, all);
        all.append(" limit ").append(x.setLimit(1000));
        all.append(" far ");
        for (int what = 0; what < 6; what++) {
            int index = what;
            tell(all, () -> x.far(index));
        }
        for (int tile = 1; tile <= 15; tile++) {
            int bits = 1 << tile;
            // A part that goes in shows that there was room for it, and what of it is in another.
            tell(all, () -> x.part(bits));
        }
        tell(all, () -> x.undo(2));
        lookAt(x, all);
        tell(all, () -> x.undo(200));
        lookAt(x, all);
        for (int macro = 0; macro < 4; macro++) {
            int index = macro;
            tell(all, () -> x.play(index, 3));
            tell(all, () -> x.rank());
        }
        for (int image = 0; image < 2; image++) {
            int index = image;
            tell(all, () -> x.restore(index));
            lookAt(x, all);
            for (int tile = 0; tile <= 15; tile++) {
                int one = tile;
                tell(all, () -> x.setFree(one, false));
                tell(all, () -> x.setWeight(one, 1));
            }
            lookAt(x, all);
        }
        return all.toString();
    }

    private static void lookAt(Slidingtray x, StringBuilder all) {
        all.append(" rank ").append(x.rank()).append(' ').append(x.settled()).append(' ').append(x.meanWeight());
        for (int what = 0; what < 3; what++) {
            all.append(' ').append(x.searched(what));
        }
        for (int index = 0; index <= x.searched(2) && index < 8; index++) {
            int one = index;
            tell(all, () -> x.wayAt(one));
        }
        for (int estimate = 0; estimate < 5; estimate++) {
            all.append(' ').append(x.estimate(estimate));
        }
        tell(all, () -> x.reaches());
    }

    private static void tell(StringBuilder all, Check.Call call) {
        String answer;
        try {
            answer = String.valueOf(call.run());
        } catch (RuntimeException e) {
            answer = e.getClass().getSimpleName();
        }
        all.append(' ').append(answer);
    }
}
