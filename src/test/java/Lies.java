/** Arrangements told by what lies on the open cells, 0 for the gap. */
final class Lies {
    private Lies() {
    }

    /** Their place among all arrangements: those that are less at the first place that differs come ahead. */
    static long rankOf(int... tiles) {
        long rank = 0;
        for (int low = 0; low < tiles.length; low++) {
            int less = 0;
            for (int high = low + 1; high < tiles.length; high++) {
                if (value(tiles[high], tiles.length) < value(tiles[low], tiles.length)) less++;
            }
            rank = rank * (tiles.length - low) + less;
        }
        return rank;
    }

    /** Lays an arrangement; looks whether it lies there then, walls left out. */
    static void lay(Slidingtray x, int... tiles) {
        x.lay(rankOf(tiles));
        int next = 0;
        for (int cell = 0; next < tiles.length; cell++) {
            int tile = x.tileAt(cell);
            if (tile == -1) continue;
            Check.same("3: what was laid on cell " + cell, tile, tiles[next]);
            next++;
        }
    }

    /** Lays the tiles in order, but the gap on the open cell with an index. */
    static void layGap(Slidingtray x, int open, int index) {
        int[] tiles = new int[open];
        for (int place = 0; place < open; place++) {
            tiles[place] = place < index ? place + 1 : place == index ? 0 : place;
        }
        x.lay(rankOf(tiles));
    }

    static int value(int tile, int open) {
        return tile == 0 ? open : tile;
    }
}
