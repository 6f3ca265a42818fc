/** Promises 15, 16 and 17: tablets that split and are joined. */
public final class TabletTest {
    public static void main(String[] args) {
        promise15SplitRanges();
        promise15SplitRefused();
        promise15SplitEntries();
        promise15SplitEmptyTables();
        promise16JoinRanges();
        promise16JoinTables();
        promise16JoinRefused();
        promise17Tablet();
        Check.end();
    }

    private static void put(TabletCells x, int row, int value) {
        x.put(row, 0, 0, value);
        x.apply();
    }

    private static void range(String when, TabletCells x, int t, int first, int last) {
        Check.is(when + ": first row of tablet " + t, x.tablet(t, 0), first);
        Check.is(when + ": last row of tablet " + t, x.tablet(t, 1), last);
    }

    private static void promise15SplitRanges() {
        TabletCells x = new TabletCells(0, 0, 0, 0);
        Check.is("15: at 32", x.split(0, 32), true);
        Check.is("15: the second at 48", x.split(1, 48), true);
        Check.is("15: the first at 1", x.split(0, 1), true);
        Check.is("15: the last at 63", x.split(3, 63), true);
        range("15", x, 0, 0, 0);
        range("15", x, 1, 1, 31);
        range("15", x, 2, 32, 47);
        range("15", x, 3, 48, 62);
        range("15", x, 4, 63, 63);
        Check.is("15: no sixth", x.tablet(5, 0), TabletCells.BAD);
        put(x, 0, 1);
        put(x, 31, 1);
        put(x, 32, 1);
        put(x, 62, 1);
        put(x, 63, 1);
        for (int t = 0; t < 5; t++) {
            Check.is("15: new entries go by their row, tablet " + t, x.tablet(t, 3), 1);
        }
    }

    private static void promise15SplitRefused() {
        TabletCells x = new TabletCells(0, 0, 0, 0);
        Check.is("15: at the first row", x.split(0, 0), false);
        Check.is("15: behind the last row", x.split(0, 64), false);
        Check.is("15: at -1", x.split(0, -1), false);
        Check.is("15: at the least", x.split(0, Integer.MIN_VALUE), false);
        Check.is("15: at the greatest", x.split(0, Integer.MAX_VALUE), false);
        Check.is("15: tablet 1", x.split(1, 5), false);
        Check.is("15: tablet -1", x.split(-1, 5), false);
        Check.is("15: tablet least", x.split(Integer.MIN_VALUE, 5), false);
        Check.is("15: nothing has changed", x.tablet(1, 0), TabletCells.BAD);
        for (int i = 1; i <= 7; i++) {
            Check.is("15: up to eight", x.split(i - 1, 8 * i), true);
        }
        Check.is("15: within a tablet that is not its", x.split(0, 9), false);
        Check.is("15: a ninth", x.split(7, 60), false);
        Check.is("15: a ninth in the first", x.split(0, 4), false);
        range("15", x, 7, 56, 63);
        Check.is("15: no ninth", x.tablet(8, 0), TabletCells.BAD);
        x.join(3);
        Check.is("15: seven and one", x.split(7, 60), false);
        Check.is("15: at the first row of the second", x.split(1, 8), false);
        Check.is("15: at the last row", x.split(6, 63), true);
        range("15", x, 7, 63, 63);
    }

    private static void promise15SplitEntries() {
        TabletCells x = new TabletCells(0, 0, 0, 0);
        put(x, 10, 1);
        put(x, 20, 2);
        put(x, 30, 3);
        x.flush(0);
        put(x, 20, 4);
        put(x, 21, 5);
        put(x, 9, 6);
        Check.is("15: split", x.split(0, 20), true);
        Check.is("15: entries that stay", x.table(0, 0, 0), 1);
        Check.is("15: memtable that stays", x.tablet(0, 3), 1);
        Check.is("15: entries of the other", x.table(1, 0, 0), 2);
        Check.is("15: its first row", x.table(1, 0, 3), 20);
        Check.is("15: memtable of the other", x.tablet(1, 3), 2);
        Check.is("15: cells are as before", x.scan(0, 63, -1, 0, 9999), 5);
        Check.is("15: the later value", x.get(20, 0, 0, 0), Check.cell(0, 4));
        Check.is("15: flush of the first", x.flush(0), 1);
        Check.is("15: the second has its memtable", x.tablet(1, 3), 2);
        Check.is("15: compact the first", x.compact(0, 2), 2);
        Check.is("15: the second has its table", x.table(1, 0, 0), 2);
    }

    private static void promise15SplitEmptyTables() {
        TabletCells x = new TabletCells(0, 0, 0, 0);
        int[][] rows = {{1}, {40, 41}, {2, 42, 43}, {44, 45, 46, 47}, {3, 4, 5, 6, 7}, {48, 49}};
        for (int[] row : rows) {
            for (int r : row) {
                put(x, r, 0);
            }
            x.flush(0);
        }
        Check.is("15: six tables", x.tablet(0, 2), 6);
        x.split(0, 40);
        Check.is("15: three stay", x.tablet(0, 2), 3);
        Check.is("15: and four are the other's", x.tablet(1, 2), 4);
        int[] stay = {1, 1, 5};
        int[] others = {2, 2, 4, 2};
        int[] firsts = {40, 42, 44, 48};
        for (int k = 0; k < 3; k++) {
            Check.is("15: in order, those that stay", x.table(0, k, 0), stay[k]);
        }
        for (int k = 0; k < 4; k++) {
            Check.is("15: in order, the others", x.table(1, k, 0), others[k]);
            Check.is("15: first rows", x.table(1, k, 3), firsts[k]);
        }
        x.split(1, 60);
        Check.is("15: none at all", x.tablet(2, 2), 0);
        Check.is("15: all of them", x.tablet(1, 2), 4);
        put(x, 63, 1);
        Check.is("15: a new one", x.flush(2), 1);
        Check.is("15: is the first", x.table(2, 0, 3), 63);
    }

    private static void promise16JoinRanges() {
        TabletCells x = new TabletCells(0, 0, 0, 0);
        x.split(0, 10);
        x.split(1, 20);
        x.split(2, 30);
        Check.is("16: the middle ones", x.join(1), true);
        range("16", x, 0, 0, 9);
        range("16", x, 1, 10, 29);
        range("16", x, 2, 30, 63);
        Check.is("16: no fourth", x.tablet(3, 0), TabletCells.BAD);
        Check.is("16: the last ones", x.join(1), true);
        range("16", x, 1, 10, 63);
        Check.is("16: all", x.join(0), true);
        range("16", x, 0, 0, 63);
        Check.is("16: one alone", x.join(0), false);
    }

    private static void promise16JoinTables() {
        TabletCells x = new TabletCells(0, 0, 0, 0);
        x.split(0, 10);
        x.split(1, 20);
        put(x, 25, 0);
        x.flush(2);
        put(x, 12, 1);
        x.flush(1);
        put(x, 13, 1);
        put(x, 14, 1);
        x.flush(1);
        put(x, 1, 1);
        x.flush(0);
        put(x, 2, 1);
        put(x, 15, 1);
        put(x, 26, 1);
        Check.is("16: join", x.join(0), true);
        Check.is("16: tables of both", x.tablet(0, 2), 3);
        Check.is("16: memtables of both", x.tablet(0, 3), 2);
        Check.is("16: the first's ahead", x.table(0, 0, 3), 1);
        Check.is("16: then the second's", x.table(0, 1, 3), 12);
        Check.is("16: in their order", x.table(0, 2, 0), 2);
        Check.is("16: the one behind is as it was", x.table(1, 0, 3), 25);
        Check.is("16: with its memtable", x.tablet(1, 3), 1);
        Check.is("16: the latest two", x.compact(0, 2), 3);
        Check.is("16: the first is as it was", x.table(0, 0, 0), 1);
        Check.is("16: cells", x.scan(0, 63, -1, 0, 9999), 8);
        Check.is("16: one table of the memtables", x.flush(0), 2);
        Check.is("16: of both ranges", x.table(0, 2, 3), 2);
    }

    private static void promise16JoinRefused() {
        TabletCells x = new TabletCells(0, 0, 0, 0);
        Check.is("16: one alone", x.join(0), false);
        x.split(0, 10);
        Check.is("16: the last", x.join(1), false);
        Check.is("16: behind the last", x.join(2), false);
        Check.is("16: -1", x.join(-1), false);
        Check.is("16: least", x.join(Integer.MIN_VALUE), false);
        Check.is("16: greatest", x.join(Integer.MAX_VALUE), false);
        range("16", x, 1, 10, 63);
        for (int i = 1; i < 7; i++) {
            x.split(i, 10 + i);
        }
        Check.is("16: the eighth", x.join(7), false);
        Check.is("16: the seventh and eighth", x.join(6), true);
        range("16", x, 6, 15, 63);
    }

    private static void promise17Tablet() {
        TabletCells x = new TabletCells(0, 0, 0, 0);
        put(x, 5, 1);
        put(x, 6, 1);
        x.flush(0);
        put(x, 5, 2);
        put(x, 5, 3);
        put(x, 5, 4);
        Check.is("17: tables", x.tablet(0, 2), 1);
        Check.is("17: entries in the memtable, covered ones too", x.tablet(0, 3), 3);
        Check.is("17: what -1", x.tablet(0, -1), TabletCells.BAD);
        Check.is("17: what 4", x.tablet(0, 4), TabletCells.BAD);
        Check.is("17: what least", x.tablet(0, Integer.MIN_VALUE), TabletCells.BAD);
        Check.is("17: tablet -1", x.tablet(-1, 0), TabletCells.BAD);
        Check.is("17: tablet 1", x.tablet(1, 0), TabletCells.BAD);
        Check.is("17: tablet greatest", x.tablet(Integer.MAX_VALUE, 3), TabletCells.BAD);
        x.split(0, 6);
        Check.is("17: first row", x.tablet(1, 0), 6);
        Check.is("17: last row", x.tablet(0, 1), 5);
        Check.is("17: an empty memtable", x.tablet(1, 3), 0);
        Check.is("17: a table", x.tablet(1, 2), 1);
    }
}
