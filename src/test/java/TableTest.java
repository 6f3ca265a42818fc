/** Promises 12, 13, 14, 18 and 19: flushing, compacting, what a table has, and the log. */
public final class TableTest {
    public static void main(String[] args) {
        promise12Flush();
        promise13CompactCovered();
        promise13CompactSomeOfThem();
        promise13CompactWhatOutsideCovers();
        promise13CompactTooOld();
        promise13CompactAllKinds();
        promise13CompactBad();
        promise14Major();
        promise14MajorOfOneTablet();
        promise18Table();
        promise18TableOrder();
        promise18TableBad();
        promise19Log();
        Check.end();
    }

    private static void put(TabletCells x, int row, int column, int time, int value) {
        x.put(row, column, time, value);
        x.apply();
    }

    private static void erase(TabletCells x, int row, int column, int time) {
        x.erase(row, column, time);
        x.apply();
    }

    private static void promise12Flush() {
        TabletCells x = new TabletCells(0, 0, 0, 0);
        Check.is("12: nothing there", x.flush(0), 0);
        Check.is("12: no table", x.tablet(0, 2), 0);
        put(x, 1, 0, 0, 1);
        put(x, 1, 0, 0, 2);
        x.put(40, 0, 0, 3);
        Check.is("12: covered ones, too, but no batch", x.flush(0), 2);
        Check.is("12: none in the memtable", x.tablet(0, 3), 0);
        Check.is("12: again", x.flush(0), 0);
        Check.is("12: one table", x.tablet(0, 2), 1);
        Check.is("12: the batch is there", x.apply(), 1);
        Check.is("12: tablet -1", x.flush(-1), TabletCells.BAD);
        Check.is("12: tablet 1", x.flush(1), TabletCells.BAD);
        Check.is("12: tablet 8", x.flush(8), TabletCells.BAD);
        Check.is("12: least", x.flush(Integer.MIN_VALUE), TabletCells.BAD);
        Check.is("12: greatest", x.flush(Integer.MAX_VALUE), TabletCells.BAD);
        x.split(0, 20);
        put(x, 2, 0, 0, 1);
        Check.is("12: the second tablet alone", x.flush(1), 1);
        Check.is("12: the first keeps its memtable", x.tablet(0, 3), 1);
        put(x, 3, 0, 0, 1);
        put(x, 4, 0, 0, 1);
        Check.is("12: behind the others", x.flush(0), 3);
        Check.is("12: the first table", x.table(0, 0, 0), 2);
        Check.is("12: the latest table", x.table(0, 1, 0), 3);
        Check.is("12: cells are read as before", x.scan(0, 63, -1, 0, 9999), 5);
    }

    private static void promise13CompactCovered() {
        TabletCells x = new TabletCells(0, 0, 0, 0);
        put(x, 1, 0, 5, 1);
        put(x, 1, 0, 6, 2);
        x.flush(0);
        put(x, 1, 0, 5, 3);
        erase(x, 1, 0, 6);
        x.flush(0);
        Check.is("13: the later cell and the erasure", x.compact(0, 2), 2);
        Check.is("13: one table", x.tablet(0, 2), 1);
        Check.is("13: one erasure", x.table(0, 0, 1), 1);
        Check.is("13: the later value", x.get(1, 0, 9999, 0), Check.cell(5, 3));
        Check.is("13: no other", x.get(1, 0, 9999, 1), TabletCells.BAD);
    }

    private static void promise13CompactSomeOfThem() {
        TabletCells x = new TabletCells(0, 0, 0, 0);
        put(x, 1, 0, 5, 1);
        put(x, 9, 0, 5, 1);
        x.flush(0);
        put(x, 1, 0, 5, 2);
        x.flush(0);
        put(x, 1, 0, 5, 3);
        put(x, 2, 0, 5, 3);
        x.flush(0);
        Check.is("13: the two latest", x.compact(0, 2), 2);
        Check.is("13: two tables", x.tablet(0, 2), 2);
        Check.is("13: the first is as it was", x.table(0, 0, 0), 2);
        Check.is("13: the new one is behind", x.table(0, 1, 0), 2);
        Check.is("13: live cells", x.scan(0, 63, -1, 0, 9999), 3);
        Check.is("13: the latest value", x.found(0), Check.cell(1, 0, 5, 3));
        erase(x, 1, -1, -1);
        x.flush(0);
        Check.is("13: an erasure stays for what is in other tables", x.compact(0, 2), 2);
        Check.is("13: the first table's cell is covered", x.get(1, 0, 9999, 0), TabletCells.BAD);
        Check.is("13: all of them", x.compact(0, 2), 3);
        Check.is("13: an erasure stays even then", x.table(0, 0, 1), 1);
    }

    private static void promise13CompactWhatOutsideCovers() {
        TabletCells x = new TabletCells(0, 0, 0, 0);
        put(x, 1, 0, 5, 1);
        x.flush(0);
        put(x, 1, 1, 5, 2);
        x.flush(0);
        erase(x, 1, -1, -1);
        Check.is("13: what the memtable covers stays", x.compact(0, 2), 2);
        Check.is("13: and is not live", x.scan(1, 1, -1, 0, 9999), 0);
        Check.is("13: the memtable stays", x.tablet(0, 3), 1);
        x.flush(0);
        Check.is("13: now it goes", x.compact(0, 2), 1);
        Check.is("13: still none", x.scan(1, 1, -1, 0, 9999), 0);
    }

    private static void promise13CompactTooOld() {
        TabletCells x = new TabletCells(0, 10, 0, 0);
        put(x, 1, 0, 0, 1);
        x.flush(0);
        erase(x, 1, 0, 0);
        put(x, 1, 0, 0, 2);
        x.flush(0);
        put(x, 1, 0, 0, 3);
        x.flush(0);
        x.tick(9);
        Check.is("13: not yet too old", x.compact(0, 2), 1);
        put(x, 1, 0, 0, 4);
        erase(x, 2, 0, 0);
        x.flush(0);
        x.tick(1);
        Check.is("13: too old, but an erasure is not", x.compact(0, 2), 1);
        Check.is("13: the erasure", x.table(0, 1, 1), 1);
        erase(x, 2, 0, -1);
        put(x, 3, 3, 0, 1);
        x.flush(0);
        Check.is("13: a cell that came too old goes", x.compact(0, 2), 1);
        put(x, 2, 0, 0, 1);
        erase(x, 2, -1, -1);
        x.flush(0);
        Check.is("13: two tables", x.compact(0, 2), 1);
        Check.is("13: the first table has its old cell", x.table(0, 0, 0), 1);
        Check.is("13: nothing is live", x.scan(0, 63, -1, 0, 9999), 0);
        TabletCells y = new TabletCells(0, 10, 0, 0);
        put(y, 1, 0, 50, 1);
        y.flush(0);
        put(y, 1, 0, 0, 1);
        y.flush(0);
        erase(y, 1, 0, 0);
        put(y, 1, 0, 0, 1);
        y.flush(0);
        y.tick(10);
        Check.is("13: none are left: what is too old covers still", y.compact(0, 2), 0);
        Check.is("13: there is no such table", y.tablet(0, 2), 1);
        put(y, 2, 0, 50, 1);
        Check.is("13: the next one", y.flush(0), 1);
        Check.is("13: has its place", y.table(0, 1, 3), 2);
    }

    /** Of nine earlier entries a cell or its erasure covers one, an erasure of the column 4, of the row 7. */
    private static void promise13CompactAllKinds() {
        int[] left = {9, 9, 6, 3};
        for (int kind = 0; kind < 4; kind++) {
            TabletCells x = new TabletCells(0, 0, 0, 0);
            erase(x, 5, -1, -1);
            erase(x, 5, 2, -1);
            put(x, 5, 2, 7, 1);
            put(x, 5, 2, 8, 1);
            erase(x, 5, 2, 9);
            put(x, 5, 3, 7, 1);
            erase(x, 5, 1, -1);
            put(x, 4, 2, 7, 1);
            put(x, 6, 2, 7, 1);
            x.flush(0);
            if (kind == 0) {
                put(x, 5, 2, 7, 2);
            } else {
                erase(x, 5, kind == 3 ? -1 : 2, kind == 1 ? 7 : -1);
            }
            x.flush(0);
            Check.is("13: entries left behind kind " + kind, x.compact(0, 2), left[kind]);
        }
        TabletCells y = new TabletCells(0, 0, 0, 0);
        erase(y, 5, 2, 7);
        y.flush(0);
        put(y, 5, 2, 7, 1);
        y.flush(0);
        Check.is("13: a cell covers an erasure of the cell", y.compact(0, 2), 1);
        Check.is("13: the cell is left", y.table(0, 0, 1), 0);
        erase(y, 5, 2, -1);
        y.flush(0);
        put(y, 5, 2, 7, 1);
        y.flush(0);
        Check.is("13: but no erasure of the column", y.compact(0, 2), 2);
        erase(y, 5, -1, -1);
        y.flush(0);
        erase(y, 5, 2, -1);
        y.flush(0);
        Check.is("13: nor does that cover an erasure of the row", y.compact(0, 2), 2);
    }

    private static void promise13CompactBad() {
        TabletCells x = new TabletCells(0, 0, 0, 0);
        Check.is("13: no tables", x.compact(0, 2), TabletCells.BAD);
        put(x, 1, 0, 0, 0);
        x.flush(0);
        Check.is("13: one table", x.compact(0, 2), TabletCells.BAD);
        Check.is("13: k 1", x.compact(0, 1), TabletCells.BAD);
        put(x, 1, 0, 0, 0);
        x.flush(0);
        put(x, 1, 0, 0, 0);
        Check.is("13: k 0", x.compact(0, 0), TabletCells.BAD);
        Check.is("13: k -1", x.compact(0, -1), TabletCells.BAD);
        Check.is("13: k least", x.compact(0, Integer.MIN_VALUE), TabletCells.BAD);
        Check.is("13: k 3", x.compact(0, 3), TabletCells.BAD);
        Check.is("13: k greatest", x.compact(0, Integer.MAX_VALUE), TabletCells.BAD);
        Check.is("13: tablet 1", x.compact(1, 2), TabletCells.BAD);
        Check.is("13: tablet -1", x.compact(-1, 2), TabletCells.BAD);
        Check.is("13: nothing has changed", x.tablet(0, 2), 2);
        Check.is("13: the memtable is no table", x.tablet(0, 3), 1);
        Check.is("13: two", x.compact(0, 2), 1);
        Check.is("13: the memtable is as it was", x.tablet(0, 3), 1);
    }

    private static void promise14Major() {
        TabletCells x = new TabletCells(2, 0, 0, 100);
        Check.is("14: nothing there", x.major(0), 0);
        Check.is("14: no table", x.tablet(0, 2), 0);
        put(x, 1, 0, 1, 1);
        put(x, 1, 0, 2, 2);
        put(x, 1, 4, 0, 3);
        x.flush(0);
        put(x, 1, 0, 3, 4);
        x.flush(0);
        erase(x, 2, -1, -1);
        put(x, 2, 0, 5, 5);
        x.tick(100);
        Check.is("14: in the memtable", x.tablet(0, 3), 2);
        Check.is("14: live cells alone", x.major(0), 3);
        Check.is("14: one table", x.tablet(0, 2), 1);
        Check.is("14: no memtable", x.tablet(0, 3), 0);
        Check.is("14: no log", x.log(), 0);
        Check.is("14: no erasures", x.table(0, 0, 1), 0);
        Check.is("14: entries", x.table(0, 0, 0), 3);
        Check.is("14: cells", x.scan(0, 63, -1, 0, 9999), 3);
        Check.is("14: a cell", x.found(1), Check.cell(1, 0, 2, 2));
        Check.is("14: of one table", x.major(0), 3);
        erase(x, 1, -1, -1);
        erase(x, 2, 0, -1);
        Check.is("14: none are left", x.major(0), 0);
        Check.is("14: no table then", x.tablet(0, 2), 0);
        Check.is("14: nor a first one", x.table(0, 0, 0), TabletCells.BAD);
        Check.is("14: tablet 1", x.major(1), TabletCells.BAD);
        Check.is("14: tablet -1", x.major(-1), TabletCells.BAD);
    }

    private static void promise14MajorOfOneTablet() {
        TabletCells x = new TabletCells(0, 0, 0, 0);
        x.split(0, 10);
        put(x, 1, 0, 1, 1);
        put(x, 1, 0, 1, 2);
        put(x, 11, 0, 1, 3);
        put(x, 11, 0, 1, 4);
        x.flush(1);
        put(x, 12, 0, 1, 5);
        Check.is("14: of the second", x.major(1), 2);
        Check.is("14: the first is as it was", x.tablet(0, 3), 2);
        Check.is("14: and has no table", x.tablet(0, 2), 0);
        Check.is("14: the log of the first", x.log(), 2);
        Check.is("14: of the first", x.major(0), 1);
        Check.is("14: the second is as it was", x.table(1, 0, 0), 2);
        Check.is("14: values", x.get(11, 0, 9999, 0), Check.cell(1, 4));
    }

    private static void promise18Table() {
        TabletCells x = new TabletCells(0, 0, 0, 0);
        for (int n = 1; n <= 9; n++) {
            for (int time = 0; time < n; time++) {
                put(x, 30 + n, 0, time, 0);
            }
            erase(x, 62, 1, -1);
            x.flush(0);
            Check.is("18: entries of table " + (n - 1), x.table(0, n - 1, 0), n + 1);
            Check.is("18: erasures of table " + (n - 1), x.table(0, n - 1, 1), 1);
            Check.is("18: blocks of table " + (n - 1), x.table(0, n - 1, 2), n < 4 ? 1 : n < 8 ? 2 : 3);
            Check.is("18: first row of table " + (n - 1), x.table(0, n - 1, 3), 30 + n);
        }
        erase(x, 7, 0, 0);
        erase(x, 7, 0, -1);
        erase(x, 7, -1, -1);
        put(x, 9, 0, 0, 0);
        x.flush(0);
        Check.is("18: all kinds of erasures", x.table(0, 9, 1), 3);
        Check.is("18: four entries are one block", x.table(0, 9, 2), 1);
        Check.is("18: an erasure may be first", x.table(0, 9, 3), 7);
    }

    /** The order in a table shows in which blocks a row has, and in the row that is first. */
    private static void promise18TableOrder() {
        TabletCells x = new TabletCells(0, 0, 0, 0);
        put(x, 20, 0, 0, 0);
        put(x, 10, 0, 0, 0);
        put(x, 15, 0, 0, 0);
        put(x, 15, 7, 0, 0);
        erase(x, 15, -1, -1);
        erase(x, 15, 3, -1);
        x.flush(0);
        Check.is("18: the least row is first", x.table(0, 0, 3), 10);
        x.get(10, 0, 0, 0);
        Check.is("18: row 10 is in the first block", x.looked(), 1);
        x.get(20, 0, 0, 0);
        Check.is("18: row 20 is in the second", x.looked(), 2);
        x.get(15, 0, 0, 0);
        Check.is("18: row 15 is in both", x.looked(), 4);
    }

    private static void promise18TableBad() {
        TabletCells x = new TabletCells(0, 0, 0, 0);
        put(x, 1, 0, 0, 0);
        Check.is("18: a memtable is no table", x.table(0, 0, 0), TabletCells.BAD);
        x.flush(0);
        Check.is("18: there is one", x.table(0, 0, 0), 1);
        Check.is("18: table 1", x.table(0, 1, 0), TabletCells.BAD);
        Check.is("18: table -1", x.table(0, -1, 0), TabletCells.BAD);
        Check.is("18: tablet 1", x.table(1, 0, 0), TabletCells.BAD);
        Check.is("18: tablet -1", x.table(-1, 0, 0), TabletCells.BAD);
        Check.is("18: what -1", x.table(0, 0, -1), TabletCells.BAD);
        Check.is("18: what 4", x.table(0, 0, 4), TabletCells.BAD);
        Check.is("18: greatest", x.table(0, Integer.MAX_VALUE, 0), TabletCells.BAD);
        Check.is("18: least", x.table(0, Integer.MIN_VALUE, 0), TabletCells.BAD);
    }

    private static void promise19Log() {
        TabletCells x = new TabletCells(1, 0, 0, 0);
        x.put(1, 0, 1, 1);
        Check.is("19: not applied", x.log(), 0);
        x.put(1, 0, 2, 1);
        x.put(1, 0, 3, 1);
        x.erase(1, 5, 5);
        x.apply();
        Check.is("19: one batch of many entries", x.log(), 1);
        put(x, 50, 0, 1, 1);
        put(x, 1, 0, 3, 1);
        Check.is("19: three", x.log(), 3);
        x.split(0, 40);
        Check.is("19: split", x.log(), 3);
        x.crash();
        Check.is("19: crashed", x.log(), 3);
        x.flush(0);
        Check.is("19: of the second tablet", x.log(), 1);
        erase(x, 2, -1, -1);
        Check.is("19: an erasure alone", x.log(), 2);
        x.join(0);
        Check.is("19: joined", x.log(), 2);
        x.major(0);
        Check.is("19: none", x.log(), 0);
        x.expect(0, 0, true, 0);
        put(x, 0, 0, 0, 0);
        Check.is("19: not met", x.log(), 0);
        x.tear();
        put(x, 0, 0, 0, 0);
        Check.is("19: torn", x.log(), 0);
        for (int i = 0; i < 15; i++) {
            put(x, i, 4, 0, 0);
        }
        Check.is("19: fifteen", x.log(), 15);
        put(x, 15, 4, 0, 0);
        Check.is("19: flushed by the sixteenth", x.log(), 0);
    }
}
