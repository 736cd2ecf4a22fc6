import java.util.NoSuchElementException;

/** Promises 9 to 14: the moves. */
public final class MoveTest {
    private static final Class<IllegalArgumentException> ARGUMENT = IllegalArgumentException.class;
    private static final Class<IndexOutOfBoundsException> INDEX = IndexOutOfBoundsException.class;
    private static final Class<IllegalStateException> STATE = IllegalStateException.class;
    private static final Class<NoSuchElementException> ELEMENT = NoSuchElementException.class;

    public static void main(String[] args) {
        moves();
        wrongMoves();
        undoes();
        undoesAtMostTwoHundred();
        macros();
        plays();
        keeps();
        restores();
        Check.end();
    }

    private static long letters(String moves) {
        long number = 0;
        for (int index = 0; index < moves.length(); index++) {
            number = number << 8 | moves.charAt(index);
        }
        return number;
    }

    private static int gap(Slidingtray x, int cells) {
        for (int cell = 0; cell < cells; cell++) {
            if (x.tileAt(cell) == 0) return cell;
        }
        return -2;
    }

    private static void moves() {
        Slidingtray x = new Slidingtray();
        x.tray(4, 4, 0);
        x.setWeight(12, 3);
        x.setWeight(8, 4);
        x.setWeight(4, 9);
        Check.same("9: move(UP, 3)", x.move(0, 3), 16);
        Check.same("9: the gap is on cell 3", x.tileAt(3), 0);
        Check.same("9: tile 4 came down", x.tileAt(7), 4);
        Check.same("9: tile 12 came down", x.tileAt(15), 12);
        Check.same("9: move(LEFT, 2)", x.move(1, 2), 2);
        Check.same("9: the gap is on cell 1", x.tileAt(1), 0);
        Check.same("9: tile 2 went right", x.tileAt(2), 2);
        Check.same("9: move(RIGHT, 1)", x.move(2, 1), 1);
        Check.same("9: move(DOWN, 3)", x.move(3, 3), 3);
        Check.same("9: the gap is on cell 14", x.tileAt(14), 0);
        Check.same("9: each of them can be undone", x.undo(200), 9);
        Check.same("9: all is as before", x.rank(), 0);
    }

    private static void wrongMoves() {
        Slidingtray x = new Slidingtray();
        Check.throwsIt("9: move(-1, 1)", ARGUMENT, () -> x.move(-1, 1));
        Check.throwsIt("9: move(4, 1)", ARGUMENT, () -> x.move(4, 1));
        Check.throwsIt("9: move(UP, 0)", ARGUMENT, () -> x.move(0, 0));
        Check.throwsIt("9: move(UP, 4)", ARGUMENT, () -> x.move(0, 4));
        Check.throwsIt("9: move(DOWN, 4), both apply", ARGUMENT, () -> x.move(3, 4));
        Check.throwsIt("9: move(DOWN, 1)", STATE, () -> x.move(3, 1));
        Check.throwsIt("9: move(RIGHT, 1)", STATE, () -> x.move(2, 1));
        Check.throwsIt("9: move(UP, 3)", STATE, () -> x.move(0, 3));
        Check.throwsIt("9: move(LEFT, 3)", STATE, () -> x.move(1, 3));
        Check.same("9: all or none", x.rank(), 0);
        Check.same("9: none to be undone", x.undo(9), 0);
        x.tray(3, 3, 0b000000100);
        Check.throwsIt("9: a wall is two cells up", STATE, () -> x.move(0, 2));
        Check.same("9: one cell up", x.move(0, 1), 1);
        Check.throwsIt("9: a wall is above", STATE, () -> x.move(0, 1));
        Check.same("9: two cells to the left", x.move(1, 2), 2);
        Check.throwsIt("9: no way round the edge", STATE, () -> x.move(1, 1));
        Check.same("9: the gap is on cell 3", x.tileAt(3), 0);
    }

    private static void undoes() {
        Slidingtray x = new Slidingtray();
        x.move(0, 2);
        x.move(1, 1);
        long rank = x.rank();
        x.move(3, 1);
        Check.same("10: undo(1)", x.undo(1), 1);
        Check.same("10: the latest one", x.rank(), rank);
        Check.throwsIt("10: undo(0)", ARGUMENT, () -> x.undo(0));
        Check.throwsIt("10: undo(201)", ARGUMENT, () -> x.undo(201));
        Check.throwsIt("10: undo(-1)", ARGUMENT, () -> x.undo(-1));
        Check.same("10: undo(2)", x.undo(2), 2);
        Check.same("10: the gap is on cell 5", x.tileAt(5), 0);
        x.move(1, 1);
        Check.same("10: undo(200)", x.undo(200), 2);
        Check.same("10: in order", x.rank(), 0);
        Check.same("10: undo(1) of none", x.undo(1), 0);
        x.setMacro(0, letters("ul"));
        x.play(0, 1);
        Check.same("10: the moves of a macro", x.undo(3), 2);
    }

    private static void undoesAtMostTwoHundred() {
        Slidingtray x = new Slidingtray();
        x.setMacro(0, letters("uuddlr"));
        x.setMacro(1, letters("uldrulll"));
        Check.same("10: 120 moves", x.play(0, 20), 120);
        x.move(0, 1);
        long afterFirst = x.rank();
        x.move(3, 1);
        x.move(1, 1);
        Check.same("10: one more to the right, then 119", x.move(2, 1), 1);
        Check.same("10: 120 moves again", x.play(0, 20), 120);
        x.move(0, 1);
        // 120 + 4 + 120 + 1 moves: the latest 200 go back to the 45th of the first 120, behind "uud"
        Check.same("10: undo(200)", x.undo(200), 200);
        Check.same("10: no more", x.undo(200), 0);
        Check.same("10: the gap is where the 45th move left it", gap(x, 9), 5);
        Check.same("10: as after one move up", x.rank(), afterFirst);
        x.play(1, 1);
        Check.same("10: what was forgotten stays so", x.undo(200), 7);
    }

    private static void macros() {
        Slidingtray x = new Slidingtray();
        Check.same("11: setMacro(0, ..)", x.setMacro(0, letters("uldr")), 4);
        Check.same("11: setMacro(3, ..) of eight", x.setMacro(3, letters("uuddllrr")), 8);
        Check.same("11: without the bytes that are 0", x.setMacro(1, letters("u\0l\0\0d\0")), 3);
        Check.same("11: a byte at the top", x.setMacro(2, (long) 'l' << 56), 1);
        Check.same("11: none", x.setMacro(2, 0), 0);
        Check.throwsIt("11: setMacro(-1, ..)", INDEX, () -> x.setMacro(-1, letters("u")));
        Check.throwsIt("11: setMacro(4, ..)", INDEX, () -> x.setMacro(4, letters("u")));
        Check.throwsIt("11: setMacro(4, wrong)", INDEX, () -> x.setMacro(4, 1));
        String[] wrong = {"x", "U", "L", "uldrx", "xuldr", "u l", "t", "v", "k", "m", "q", "s", "c", "e"};
        for (String moves : wrong) {
            Check.throwsIt("11: setMacro(0, " + moves + ")", ARGUMENT, () -> x.setMacro(0, letters(moves)));
        }
        Check.throwsIt("11: the highest bit", ARGUMENT, () -> x.setMacro(0, Long.MIN_VALUE));
        Check.throwsIt("11: all bits", ARGUMENT, () -> x.setMacro(0, -1L));
        Check.throwsIt("11: a letter with its highest bit", ARGUMENT, () -> x.setMacro(0, 'u' | 128));
        Check.same("11: a wrong number changes nothing", x.play(0, 1), 4);
        x.setMacro(0, 'u');
        Check.same("11: a macro is made anew", x.play(0, 1), 1);
        Check.same("11: the macros stay when moves are made", x.play(1, 1), 3);
    }

    private static void plays() {
        Slidingtray x = new Slidingtray();
        x.setMacro(1, letters("uldr"));
        x.setMacro(2, letters("ul"));
        Check.same("12: play(1, 3)", x.play(1, 3), 12);
        Check.same("12: three times round is in order", x.rank(), 0);
        Check.same("12: play(1, 20)", x.play(1, 20), 80);
        x.lay(0);
        Check.same("12: play(2, 20) ends at the edge", x.play(2, 20), 4);
        Check.same("12: the gap is on cell 0", x.tileAt(0), 0);
        Check.same("12: it ends at once", x.play(2, 1), 0);
        x.lay(0);
        x.setMacro(3, letters("urld"));
        Check.same("12: it ends ahead of the move, and none is left out", x.play(3, 2), 1);
        Check.throwsIt("12: play(-1, 1)", INDEX, () -> x.play(-1, 1));
        Check.throwsIt("12: play(4, 0)", INDEX, () -> x.play(4, 0));
        Check.throwsIt("12: play(1, 0)", ARGUMENT, () -> x.play(1, 0));
        Check.throwsIt("12: play(1, 21)", ARGUMENT, () -> x.play(1, 21));
        Check.throwsIt("12: play(0, 0) of no moves", ARGUMENT, () -> x.play(0, 0));
        Check.throwsIt("12: play(0, 1) of no moves", ELEMENT, () -> x.play(0, 1));
        x.setMacro(1, 0);
        Check.throwsIt("12: play(1, 1) of none any more", ELEMENT, () -> x.play(1, 1));
        Check.same("12: wrong calls change nothing", x.tileAt(5), 0);
        x.tray(3, 3, 0b000000001);
        x.setMacro(0, letters("uull"));
        Check.same("12: it ends ahead of a wall", x.play(0, 2), 3);
        Check.same("12: the gap is on cell 1", x.tileAt(1), 0);
    }

    private static void keeps() {
        Slidingtray x = new Slidingtray();
        Check.same("13: keep(0)", x.keep(0), 0);
        x.lay(362879);
        Check.same("13: keep(1)", x.keep(1), 362879);
        Check.throwsIt("13: keep(2)", INDEX, () -> x.keep(2));
        Check.throwsIt("13: keep(-1)", INDEX, () -> x.keep(-1));
        Check.same("13: restore(0)", x.restore(0), 8);
        Check.same("13: its rank", x.rank(), 0);
        Check.same("13: restore(1)", x.restore(1), 0);
        Check.same("13: its rank, too", x.rank(), 362879);
        x.lay(5);
        Check.same("13: keep(0) again", x.keep(0), 5);
        x.lay(0);
        x.restore(0);
        Check.same("13: the latest image", x.rank(), 5);
        x.move(0, 1);
        Check.same("13: what was kept does not move", x.restore(0) >= 0 && x.rank() == 5, true);
        x.part(2);
        x.part(4);
        x.lay(0);
        x.move(0, 1);
        x.keep(1);
        Check.throwsIt("13: keep() leaves the parts", STATE, () -> x.part(8));
        Check.same("13: and what can be undone", x.undo(1), 1);
        x.tray(4, 4, 0);
        x.lay(20922789887999L);
        Check.same("13: keep() tells a long", x.keep(0), 20922789887999L);
    }

    private static void restores() {
        Slidingtray x = new Slidingtray();
        x.tray(2, 3, 0);
        Check.throwsIt("14: restore(0) of none", STATE, () -> x.restore(0));
        Check.throwsIt("14: restore(2)", INDEX, () -> x.restore(2));
        Check.throwsIt("14: restore(-1)", INDEX, () -> x.restore(-1));
        x.setWeight(1, 7);
        x.setFree(2, true);
        x.setFree(0, true);
        x.lay(122);
        x.setGoal();
        x.lay(700);
        int cost = x.far(4);
        int displaced = x.estimate(1);
        x.keep(1);
        x.setWeight(1, 1);
        x.setWeight(3, 9);
        x.setFree(2, false);
        x.setFree(0, false);
        x.setFree(4, true);
        x.lay(1);
        x.setGoal();
        x.lay(3);
        x.far(4);
        x.part(2);
        x.part(8);
        x.move(x.tileAt(3) == 0 ? 0 : 1, 1);
        Check.same("14: restore(1)", x.restore(1), 0);
        Check.same("14: the arrangement", x.rank(), 700);
        Check.same("14: the weights", x.meanWeight(), 11.0 / 5.0);
        Check.same("14: tile 2 is free", x.setFree(2, true), true);
        Check.same("14: tile 4 is not", x.setFree(4, false), false);
        Check.same("14: the gap is free", x.setFree(0, true), true);
        Check.same("14: the goal", x.estimate(1), displaced);
        Check.same("14: the cost from it", x.far(4), cost);
        Check.same("14: no moves can be undone", x.undo(1), 0);
        x.restore(1);
        Check.same("14: parts are none then", x.part(2), 30);
        Check.same("14: parts are none then: two can be told", x.part(8), 30);
        Check.throwsIt("14: restore(0) of none still", STATE, () -> x.restore(0));
        Check.throwsIt("14: a wrong restore leaves the parts", STATE, () -> x.part(16));
        x.setMacro(0, 'd');
        x.solve(0);
        int states = x.searched(0);
        x.restore(1);
        Check.same("14: searched() stays", x.searched(0), states);
        Check.same("14: macros stay", x.play(0, 1), 1);
        x.setGoal();
        x.restore(1);
        Check.same("14: an image can be used again", x.estimate(1), displaced);
        x.tray(2, 3, 0);
        Check.throwsIt("14: restore(1) of another tray's", STATE, () -> x.restore(1));
    }
}
