/** Numbers on both sides of the document's boundaries, and stores that stand at one. */
final class Edge {
    static final int LEAST = Integer.MIN_VALUE;
    static final int GREATEST = Integer.MAX_VALUE;

    static final int[] ROWS = {0, 1, 31, 32, 62, 63};
    static final int[] NO_ROWS = {LEAST, -2, -1, 64, 65, GREATEST};
    static final int[] COLUMNS = {0, 1, 2, 3, 4, 5, 6, 7};
    static final int[] NO_COLUMNS = {LEAST, -2, -1, 8, 9, GREATEST};
    static final int[] TIMES = {0, 1, 5000, 9998, 9999};
    static final int[] NO_TIMES = {LEAST, -2, -1, 10000, 10001, GREATEST};
    static final int[] VALUES = {LEAST, LEAST + 1, -1, 0, 1, GREATEST - 1, GREATEST};

    private static final int ROWS_OF_A_TABLET = 8;

    private Edge() {
    }

    static TabletCells plain() {
        return new TabletCells(0, 0, 0, 0);
    }

    /** A batch of one cell, applied. */
    static int put(TabletCells x, int row, int column, int time, int value) {
        x.put(row, column, time, value);
        return x.apply();
    }

    /** A batch of one erasure, applied. */
    static int erase(TabletCells x, int row, int column, int time) {
        x.erase(row, column, time);
        return x.apply();
    }

    /** As many cells of a row, each in a batch of its own, of the times 0, 1 .. in one column. */
    static void putCells(TabletCells x, int row, int column, int cells) {
        for (int time = 0; time < cells; time++) {
            put(x, row, column, time, time);
        }
    }

    /** A table of so many cells of a row behind the others of the first tablet. */
    static void addTable(TabletCells x, int row, int column, int cells) {
        putCells(x, row, column, cells);
        x.flush(0);
    }

    static void tickTo(TabletCells x, int clock) {
        int now = x.tick(0);
        for (int i = 0; i < 10 && now < clock; i++) {
            now = x.tick(Math.min(5000, clock - now));
        }
    }

    static int tablets(TabletCells x) {
        int n = 0;
        while (n < 20 && x.tablet(n, 0) != TabletCells.BAD) {
            n++;
        }
        return n;
    }

    /** All entries in all tablets, in memtables and tables, those that are covered too. */
    static int entries(TabletCells x) {
        int n = 0;
        int tablets = tablets(x);
        for (int t = 0; t < tablets; t++) {
            int tables = x.tablet(t, 2);
            n += x.tablet(t, 3);
            for (int k = 0; k < tables; k++) {
                n += x.table(t, k, 0);
            }
        }
        return n;
    }

    /** Splits the rows evenly into so many tablets; 8 rows are in each but the last. */
    static void splitInto(TabletCells x, int tablets) {
        for (int t = 0; t < tablets - 1; t++) {
            x.split(t, ROWS_OF_A_TABLET * (t + 1));
        }
    }

    /** Eight tablets with so many entries in all (8 .. 247), in tables and memtables; one version is kept in family 0. */
    static TabletCells ofEntries(int entries) {
        TabletCells x = new TabletCells(1, 0, 0, 0);
        splitInto(x, 8);
        for (int t = 0; t < 8; t++) {
            put(x, ROWS_OF_A_TABLET * t, 0, 0, 0);
        }
        int made = 8;
        for (int i = 0; made < entries; i++) {
            int most = made < 239 ? Math.min(entries, 239) - made : entries - made;
            addChanges(x, ROWS_OF_A_TABLET * (i % 8), Math.min(8, most), 1 + 4 * i);
            made += x.apply();
        }
        return x;
    }

    /** A batch that makes so many entries (1 .. 8) in a row that has a cell in column 0, with times from one on. */
    static void addChanges(TabletCells x, int row, int entries, int time) {
        for (int i = 0; i < entries / 2; i++) {
            x.put(row, 0, time + i, i);
        }
        if (entries % 2 == 1) {
            x.put(row, 4, time, 0);
        }
    }
}
