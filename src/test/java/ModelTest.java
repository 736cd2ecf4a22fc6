import java.util.NoSuchElementException;

/** Runs of drawn calls, compared with the Model: right arguments, edges and wrong ones, in any state. */
public final class ModelTest {
    private static final int RUNS = 400;
    private static final int CALLS = 150;
    private static final String[] NAMES = {
        "tray", "lay", "mix", "setGoal", "setFree", "setWeight", "setLimit", "move", "undo", "setMacro", "play",
        "keep", "restore", "tileAt", "rank", "inversions", "reaches", "estimate", "solve", "deepen", "both",
        "searched", "wayAt", "hint", "far", "onlyWay", "isFair", "part", "meanWeight", "settled", "errors",
    };

    /** One call with its arguments, as they were drawn. */
    private static final class Call {
        final String name;
        final long first;
        final long second;
        final long third;

        Call(String name, long first, long second, long third) {
            this.name = name;
            this.first = first;
            this.second = second;
            this.third = third;
        }

        String on(Slidingtray x, Model m) {
            int a = (int) first;
            int b = (int) second;
            int c = (int) third;
            boolean is = x != null;
            try {
                switch (name) {
                    case "tray": return "" + (is ? x.tray(a, b, c) : m.tray(a, b, c));
                    case "lay": return "" + (is ? x.lay(first) : m.lay(first));
                    case "mix": return "" + (is ? x.mix(a, b) : m.mix(a, b));
                    case "setGoal": return "" + (is ? x.setGoal() : m.setGoal());
                    case "setFree": return "" + (is ? x.setFree(a, b == 1) : m.setFree(a, b == 1));
                    case "setWeight": return "" + (is ? x.setWeight(a, b) : m.setWeight(a, b));
                    case "setLimit": return "" + (is ? x.setLimit(a) : m.setLimit(a));
                    case "move": return "" + (is ? x.move(a, b) : m.move(a, b));
                    case "undo": return "" + (is ? x.undo(a) : m.undo(a));
                    case "setMacro": return "" + (is ? x.setMacro(a, second) : m.setMacro(a, second));
                    case "play": return "" + (is ? x.play(a, b) : m.play(a, b));
                    case "keep": return "" + (is ? x.keep(a) : m.keep(a));
                    case "restore": return "" + (is ? x.restore(a) : m.restore(a));
                    default: return ask(x, m, a);
                }
            } catch (IllegalArgumentException | IllegalStateException | IndexOutOfBoundsException
                    | NoSuchElementException e) {
                return e.getClass().getSimpleName();
            }
        }

        private String ask(Slidingtray x, Model m, int a) {
            boolean is = x != null;
            switch (name) {
                case "tileAt": return "" + (is ? x.tileAt(a) : m.tileAt(a));
                case "rank": return "" + (is ? x.rank() : m.rank());
                case "inversions": return "" + (is ? x.inversions() : m.inversions());
                case "reaches": return "" + (is ? x.reaches() : m.reaches());
                case "estimate": return "" + (is ? x.estimate(a) : m.estimate(a));
                case "solve": return "" + (is ? x.solve(a) : m.solve(a));
                case "deepen": return "" + (is ? x.deepen(a) : m.deepen(a));
                case "both": return "" + (is ? x.both() : m.both());
                case "searched": return "" + (is ? x.searched(a) : m.searched(a));
                case "wayAt": return "" + (is ? x.wayAt(a) : m.wayAt(a));
                case "hint": return "" + (is ? x.hint() : m.hint());
                case "far": return "" + (is ? x.far(a) : m.far(a));
                case "onlyWay": return "" + (is ? x.onlyWay(a) : m.onlyWay(a));
                case "isFair": return "" + (is ? x.isFair(a) : m.isFair(a));
                case "part": return "" + (is ? x.part(a) : m.part(a));
                case "meanWeight": return "" + (is ? x.meanWeight() : m.meanWeight());
                case "settled": return "" + (is ? x.settled() : m.settled());
                default: return "" + (is ? x.errors() : m.errors());
            }
        }

        @Override
        public String toString() {
            return name + "(" + first + ", " + second + ", " + third + ")";
        }
    }

    private static long state;

    /** A number from 0, less than the bound. */
    private static int draw(int bound) {
        state = state * 6364136223846793005L + 1442695040888963407L;
        return (int) ((state >>> 33) % bound);
    }

    /** A number from one bound to the other, both in; now and then one beside them or far off. */
    private static int near(int least, int most) {
        int kind = draw(40);
        if (kind == 0) return least - 1;
        if (kind == 1) return most + 1;
        if (kind == 2) return least;
        if (kind == 3) return most;
        if (kind == 4 && draw(4) == 0) return draw(2) == 0 ? Integer.MIN_VALUE : Integer.MAX_VALUE;
        return least + draw(most - least + 1);
    }

    private static Call drawTray(boolean isSmall) {
        int rows = near(2, isSmall ? 3 : 4);
        int columns = near(2, isSmall ? 3 : 4);
        int walls = 0;
        int many = draw(3) == 0 ? 0 : draw(isSmall ? 6 : 5);
        for (int count = 0; count < many; count++) {
            walls |= 1 << draw(Math.max(1, Math.min(16, rows * columns)));
        }
        if (draw(40) == 0) walls |= 1 << draw(32);
        return new Call("tray", rows, columns, walls);
    }

    private static long drawRank(int cells) {
        int kind = draw(20);
        if (kind == 0) return -1;
        long count = 1;
        for (int places = 2; places <= cells; places++) {
            count *= places;
        }
        if (kind == 1) return count;
        if (kind == 2) return count - 1;
        if (kind == 3) return draw(2) == 0 ? Long.MAX_VALUE : Long.MIN_VALUE;
        return ((long) draw(1 << 30) << 30 | draw(1 << 30)) % count;
    }

    private static long drawLetters() {
        long moves = 0;
        for (int index = 0; index < 8; index++) {
            int kind = draw(200);
            int letter = kind == 0 ? draw(256) : kind < 80 ? 0 : "ulrd".charAt(draw(4));
            moves = moves << 8 | letter;
        }
        return moves;
    }

    private static Call drawCall(int open, boolean isSmall) {
        String name = NAMES[draw(NAMES.length)];
        switch (name) {
            case "tray": return draw(4) == 0 ? drawTray(isSmall) : new Call("rank", 0, 0, 0);
            case "lay": return new Call(name, drawRank(open), 0, 0);
            case "mix": return new Call(name, draw(2) == 0 ? draw(1000) : draw(1 << 30) * 7, near(0, draw(3) == 0 ? 200 : 12), 0);
            case "setFree": return new Call(name, near(0, open - 1), draw(4) == 0 ? 1 : 0, 0);
            case "setWeight": return new Call(name, near(1, open - 1), near(1, 9), 0);
            case "setLimit": return new Call(name, near(1, draw(3) == 0 ? 30 : 1000), 0, 0);
            case "move": return new Call(name, near(0, 3), near(1, 3), 0);
            case "undo": return new Call(name, near(1, draw(2) == 0 ? 5 : 200), 0, 0);
            case "setMacro": return new Call(name, near(0, 3), drawLetters(), 0);
            case "play": return new Call(name, near(0, 3), near(1, 20), 0);
            case "keep":
            case "restore": return new Call(name, near(0, 1), 0, 0);
            case "tileAt": return new Call(name, near(0, 15), 0, 0);
            case "estimate":
            case "solve":
            case "deepen":
            case "isFair": return new Call(name, near(0, 4), 0, 0);
            case "searched": return new Call(name, near(0, 2), 0, 0);
            case "wayAt": return new Call(name, near(0, 12), 0, 0);
            case "far": return new Call(name, near(0, 5), 0, 0);
            case "onlyWay": return new Call(name, near(0, 25), 0, 0);
            case "part": return new Call(name, drawPart(open), 0, 0);
            default: return new Call(name, 0, 0, 0);
        }
    }

    private static int drawPart(int open) {
        int tiles = 0;
        int many = 1 + draw(3);
        for (int count = 0; count < many; count++) {
            tiles |= 1 << 1 + draw(open - 1);
        }
        int kind = draw(20);
        if (kind == 0) return 0;
        if (kind == 1) return tiles | 1;
        if (kind == 2) return tiles | 1 << open;
        if (kind == 3) return tiles | 1 << 31;
        if (kind == 4) return (1 << open) - 2;
        return tiles;
    }

    private static void run(int number) {
        state = number * 7919L + 17;
        boolean isSmall = number % 3 != 0;
        Slidingtray tray = new Slidingtray();
        Model model = new Model();
        StringBuilder history = new StringBuilder();
        for (int count = 0; count < CALLS; count++) {
            int open = 1;
            for (int cell = 0; cell < 16; cell++) {
                String tile = new Call("tileAt", cell, 0, 0).on(null, model);
                if (!tile.equals("-1") && !tile.equals("0") && !tile.startsWith("I")) open++;
            }
            Call call = count == 0 ? drawTray(isSmall) : drawCall(open, isSmall);
            if (count % 25 == 24) call = new Call("mix", draw(1000), draw(15), 0);
            history.append(call).append("; ");
            if (!compare(number, call, tray, model, history)) return;
            if (!compareAll(number, tray, model, history)) return;
        }
    }

    private static boolean compare(int number, Call call, Slidingtray tray, Model model, StringBuilder history) {
        String want = call.on(null, model);
        String got = call.on(tray, null);
        Check.holds("run " + number + ": " + history + " then " + call + " answered " + got + ", due is " + want,
                got.equals(want));
        return got.equals(want);
    }

    /** What costs little is asked after each call, so that what a call changes or leaves is seen at once. */
    private static boolean compareAll(int number, Slidingtray tray, Model model, StringBuilder history) {
        boolean isSame = compare(number, new Call("rank", 0, 0, 0), tray, model, history)
                && compare(number, new Call("settled", 0, 0, 0), tray, model, history)
                && compare(number, new Call("meanWeight", 0, 0, 0), tray, model, history)
                && compare(number, new Call("wayAt", 0, 0, 0), tray, model, history);
        for (int what = 0; what < 3 && isSame; what++) {
            isSame = compare(number, new Call("searched", what, 0, 0), tray, model, history);
        }
        for (int kind = 1; kind < 5 && isSame; kind++) {
            isSame = compare(number, new Call("estimate", kind, 0, 0), tray, model, history);
        }
        return isSame;
    }

    public static void main(String[] args) {
        for (int number = 1; number <= RUNS; number++) {
            run(number);
        }
        Check.end();
    }
}
