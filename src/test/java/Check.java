/** Counts checks, and prints those whose answer is not the one that is due. */
final class Check {
    /** A call that answers nothing that is looked at. */
    interface Call {
        Object run();
    }

    private static int right = 0;
    private static int wrong = 0;

    private Check() {
    }

    static void same(String what, long got, long want) {
        if (got == want) right++;
        else fail(what + " answered " + got + ", due is " + want);
    }

    static void same(String what, boolean got, boolean want) {
        same(what, got ? 1 : 0, want ? 1 : 0);
    }

    static void same(String what, double got, double want) {
        if (got == want) right++;
        else fail(what + " answered " + got + ", due is " + want);
    }

    static void throwsIt(String what, Class<? extends RuntimeException> want, Call call) {
        try {
            Object got = call.run();
            fail(what + " answered " + got + ", due is " + want.getSimpleName());
        } catch (RuntimeException e) {
            if (e.getClass() == want) right++;
            else fail(what + " threw " + e + ", due is " + want.getSimpleName());
        }
    }

    static void holds(String what, boolean isSo) {
        if (isSo) right++;
        else fail(what);
    }

    static void fail(String text) {
        wrong++;
        if (wrong <= 50) System.out.println(text);
    }

    static void end() {
        System.out.println(right + " checks right, " + wrong + " wrong");
        if (wrong > 0 || right == 0) System.exit(1);
    }
}
