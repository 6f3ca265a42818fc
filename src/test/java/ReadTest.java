/** Promises 9, 10, 11 and 20: reading, and what it looks at. */
public final class ReadTest {
    public static void main(String[] args) {
        promise9Get();
        promise9GetFromMemtableAndTables();
        promise9GetLooks();
        promise10ScanRange();
        promise10ScanOrder();
        promise10ScanBad();
        promise11Found();
        promise20BlocksOfARow();
        promise20FalseAlarm();
        promise20TabletsAndTables();
        Check.end();
    }

    private static void put(TabletCells x, int row, int column, int time, int value) {
        x.put(row, column, time, value);
        x.apply();
    }

    private static void promise9Get() {
        TabletCells x = new TabletCells(0, 0, 0, 0);
        put(x, 8, 2, 0, 10);
        put(x, 8, 2, 9999, -1);
        put(x, 8, 2, 50, Integer.MIN_VALUE);
        put(x, 8, 3, 60, 40);
        put(x, 9, 2, 70, 50);
        Check.is("9: the latest", x.get(8, 2, 9999, 0), 4294967296L * 9999 + 4294967295L);
        Check.is("9: the second", x.get(8, 2, 9999, 1), 4294967296L * 50 + 2147483648L);
        Check.is("9: the third", x.get(8, 2, 9999, 2), 10);
        Check.is("9: the fourth", x.get(8, 2, 9999, 3), TabletCells.BAD);
        Check.is("9: at a time of a cell", x.get(8, 2, 50, 0), Check.cell(50, Integer.MIN_VALUE));
        Check.is("9: at a time between", x.get(8, 2, 49, 0), Check.cell(0, 10));
        Check.is("9: the second at a time between", x.get(8, 2, 9998, 1), Check.cell(0, 10));
        Check.is("9: at -1", x.get(8, 2, -1, 0), TabletCells.BAD);
        Check.is("9: at the greatest", x.get(8, 2, Integer.MAX_VALUE, 1), Check.cell(50, Integer.MIN_VALUE));
        Check.is("9: at the least", x.get(8, 2, Integer.MIN_VALUE, 0), TabletCells.BAD);
        Check.is("9: n -1", x.get(8, 2, 9999, -1), TabletCells.BAD);
        Check.is("9: n least", x.get(8, 2, 9999, Integer.MIN_VALUE), TabletCells.BAD);
        Check.is("9: n greatest", x.get(8, 2, 9999, Integer.MAX_VALUE), TabletCells.BAD);
        Check.is("9: row -1", x.get(-1, 2, 9999, 0), TabletCells.BAD);
        Check.is("9: row 64", x.get(64, 2, 9999, 0), TabletCells.BAD);
        Check.is("9: column -1", x.get(8, -1, 9999, 0), TabletCells.BAD);
        Check.is("9: column 8", x.get(8, 8, 9999, 0), TabletCells.BAD);
        Check.is("9: an empty column", x.get(8, 1, 9999, 0), TabletCells.BAD);
    }

    private static void promise9GetFromMemtableAndTables() {
        TabletCells x = new TabletCells(0, 0, 0, 0);
        put(x, 8, 2, 10, 1);
        put(x, 8, 2, 11, 2);
        x.flush(0);
        put(x, 8, 2, 10, 3);
        x.flush(0);
        put(x, 8, 2, 12, 4);
        x.erase(8, 2, 11);
        x.apply();
        Check.is("9: from the memtable", x.get(8, 2, 9999, 0), Check.cell(12, 4));
        Check.is("9: the later table covers the first", x.get(8, 2, 9999, 1), Check.cell(10, 3));
        Check.is("9: the memtable erases in a table", x.get(8, 2, 9999, 2), TabletCells.BAD);
    }

    private static void promise9GetLooks() {
        TabletCells x = new TabletCells(0, 0, 0, 0);
        put(x, 8, 2, 10, 1);
        x.get(8, 2, 9999, 0);
        Check.is("9: a memtable has no blocks", x.looked(), 0);
        x.flush(0);
        x.get(8, 2, 9999, 0);
        Check.is("9: one block", x.looked(), 1);
        x.get(8, 2, 9999, 1);
        Check.is("9: there is none, but it is looked at", x.looked(), 2);
        x.get(8, 2, 9999, -1);
        Check.is("9: n below 0, but it is looked at", x.looked(), 3);
        x.get(8, 2, -5, 0);
        Check.is("9: no such time, but it is looked at", x.looked(), 4);
        x.get(8, 7, 5, 0);
        Check.is("9: nothing in that column, but it is looked at", x.looked(), 5);
        x.get(8, 8, 9999, 0);
        x.get(8, -1, 9999, 0);
        x.get(64, 2, 9999, 0);
        x.get(-1, 2, 9999, 0);
        Check.is("9: no such row or column: nothing", x.looked(), 5);
    }

    private static TabletCells fourRows() {
        TabletCells x = new TabletCells(0, 0, 0, 0);
        put(x, 63, 7, 9999, 1);
        put(x, 0, 0, 0, 2);
        put(x, 31, 5, 4, -3);
        put(x, 31, 5, 6, 4);
        put(x, 31, 1, 5, 5);
        put(x, 30, 5, 5, 6);
        return x;
    }

    private static void promise10ScanRange() {
        TabletCells x = fourRows();
        Check.is("10: all", x.scan(0, 63, -1, 0, 9999), 6);
        Check.is("10: more than all", x.scan(Integer.MIN_VALUE, Integer.MAX_VALUE, -1, Integer.MIN_VALUE, Integer.MAX_VALUE), 6);
        Check.is("10: one row", x.scan(31, 31, -1, 0, 9999), 3);
        Check.is("10: none between", x.scan(32, 62, -1, 0, 9999), 0);
        Check.is("10: two rows", x.scan(30, 31, 5, 0, 9999), 3);
        Check.is("10: a column", x.scan(0, 63, 5, 0, 9999), 3);
        Check.is("10: times of both ends", x.scan(0, 63, 5, 4, 5), 2);
        Check.is("10: a time alone", x.scan(0, 63, -1, 6, 6), 1);
        Check.is("10: from behind to", x.scan(0, 63, -1, 6, 5), 0);
        Check.is("10: low behind high", x.scan(31, 30, -1, 0, 9999), 0);
        Check.is("10: below all rows", x.scan(-9, -1, -1, 0, 9999), 0);
        Check.is("10: behind all rows", x.scan(64, 99, -1, 0, 9999), 0);
        Check.is("10: greatest to least", x.scan(Integer.MAX_VALUE, Integer.MIN_VALUE, -1, 0, 9999), 0);
        Check.is("10: times from -1", x.scan(0, 63, -1, -1, 0), 1);
        x.erase(31, -1, -1);
        x.apply();
        Check.is("10: no erasures and nothing that is erased", x.scan(0, 63, -1, -1, 9999), 3);
    }

    private static void promise10ScanOrder() {
        TabletCells x = fourRows();
        x.flush(0);
        x.split(0, 31);
        put(x, 31, 5, 5, 7);
        x.scan(0, 63, -1, 0, 9999);
        Check.is("10: 0", x.found(0), Check.cell(0, 0, 0, 2));
        Check.is("10: 1", x.found(1), Check.cell(30, 5, 5, 6));
        Check.is("10: 2", x.found(2), Check.cell(31, 1, 5, 5));
        Check.is("10: 3", x.found(3), Check.cell(31, 5, 6, 4));
        Check.is("10: 4", x.found(4), Check.cell(31, 5, 5, 7));
        Check.is("10: 5", x.found(5), Check.cell(31, 5, 4, -3));
        Check.is("10: 6", x.found(6), Check.cell(63, 7, 9999, 1));
        Check.is("10: 7", x.found(7), TabletCells.BAD);
    }

    private static void promise10ScanBad() {
        TabletCells x = fourRows();
        x.flush(0);
        x.scan(31, 31, -1, 0, 9999);
        int looked = x.looked();
        Check.is("10: column 8", x.scan(0, 63, 8, 0, 9999), TabletCells.BAD);
        Check.is("10: column -2", x.scan(0, 63, -2, 0, 9999), TabletCells.BAD);
        Check.is("10: the result stays", x.found(2), Check.cell(31, 5, 4, -3));
        Check.is("10: nothing is looked at", x.looked(), looked);
        Check.is("10: column 7", x.scan(0, 63, 7, 0, 9999), 1);
        Check.is("10: one that finds nothing is a result", x.scan(1, 1, 7, 0, 9999), 0);
        Check.is("10: and is empty", x.found(0), TabletCells.BAD);
    }

    private static void promise11Found() {
        TabletCells x = fourRows();
        Check.is("11: no scan yet", x.found(0), TabletCells.BAD);
        x.scan(0, 63, 5, 0, 9999);
        Check.is("11: -1", x.found(-1), TabletCells.BAD);
        Check.is("11: least", x.found(Integer.MIN_VALUE), TabletCells.BAD);
        Check.is("11: greatest", x.found(Integer.MAX_VALUE), TabletCells.BAD);
        Check.is("11: 3", x.found(3), TabletCells.BAD);
        Check.is("11: a value without sign", x.found(2), 4294967296L * (80000 * 31 + 10000 * 5 + 4) + 4294967293L);
        x.erase(31, -1, -1);
        x.apply();
        x.major(0);
        x.get(31, 5, 9999, 0);
        x.split(0, 31);
        x.crash();
        Check.is("11: what comes later leaves it", x.found(1), Check.cell(31, 5, 6, 4));
        put(x, 0, 0, 0, 0);
        x.scan(0, 0, 0, 0, 0);
        Check.is("11: a cell of zeros", x.found(0), 0);
        Check.is("11: the latest scan alone", x.found(1), TabletCells.BAD);
        x.scan(63, 63, -1, 0, 9999);
        Check.is("11: the greatest of all", x.found(0), Check.cell(63, 7, 9999, 1));
    }

    private static void promise20BlocksOfARow() {
        TabletCells x = new TabletCells(0, 0, 0, 0);
        for (int time = 0; time < 3; time++) {
            put(x, 1, 0, time, 0);
        }
        for (int time = 0; time < 6; time++) {
            put(x, 2, 0, time, 0);
        }
        put(x, 3, 0, 0, 0);
        x.flush(0);
        x.get(1, 0, 0, 0);
        Check.is("20: row 1 is in block 0", x.looked(), 1);
        x.get(2, 0, 0, 0);
        Check.is("20: row 2 is in blocks 0, 1 and 2", x.looked(), 4);
        x.get(3, 0, 0, 0);
        Check.is("20: row 3 is in block 2", x.looked(), 5);
        x.get(50, 0, 0, 0);
        Check.is("20: row 50 is not in the filter", x.looked(), 5);
        x.scan(1, 3, 7, 0, 0);
        Check.is("20: a scan looks for each row", x.looked(), 10);
        x.scan(3, 1, 7, 0, 0);
        Check.is("20: or for none", x.looked(), 10);
        x.scan(2, 2, 0, 9, 1);
        Check.is("20: whatever it finds", x.looked(), 13);
    }

    /** Tables of two rows that together set both bits of a third one, which is not there. */
    private static void promise20FalseAlarm() {
        int alarms = 0;
        for (int row = 0; row < 64; row++) {
            for (int a = 0; a < 64; a++) {
                for (int b = a + 1; b < 64 && alarms < 40; b++) {
                    boolean sets = sets(a, b, (7 * row + 3) % 64) && sets(a, b, (13 * row + 29) % 64);
                    if (row != a && row != b && sets) {
                        alarms++;
                        falseAlarm(row, a, b, true);
                    }
                }
            }
        }
        Check.is("20: there are rows that set another's bits", alarms, 40);
        falseAlarm(50, 1, 2, false);
        oneBitAlone();
    }

    private static boolean sets(int a, int b, int bit) {
        return bit == (7 * a + 3) % 64 || bit == (13 * a + 29) % 64 || bit == (7 * b + 3) % 64 || bit == (13 * b + 29) % 64;
    }

    private static void falseAlarm(int row, int a, int b, boolean isOne) {
        TabletCells x = new TabletCells(0, 0, 0, 0);
        for (int time = 0; time < 5; time++) {
            put(x, a, 0, time, 0);
            put(x, b, 0, time, 0);
        }
        put(x, row, 0, 0, 0);
        x.erase(row, -1, -1);
        x.apply();
        x.major(0);
        x.get(row, 0, 0, 0);
        Check.is("20: row " + row + " in a table of rows " + a + " and " + b, x.looked(), isOne ? 1 : 0);
    }

    private static void oneBitAlone() {
        for (int row = 0; row < 64; row++) {
            for (int other = 0; other < 64; other++) {
                boolean first = sets(other, other, (7 * row + 3) % 64);
                boolean second = sets(other, other, (13 * row + 29) % 64);
                if (first != second) {
                    TabletCells x = new TabletCells(0, 0, 0, 0);
                    put(x, other, 0, 0, 0);
                    x.flush(0);
                    x.get(row, 0, 0, 0);
                    Check.is("20: row " + row + " in a table of row " + other, x.looked(), 0);
                }
            }
        }
    }

    private static void promise20TabletsAndTables() {
        TabletCells x = new TabletCells(0, 0, 0, 0);
        for (int i = 0; i < 3; i++) {
            put(x, 5, 0, i, 0);
            put(x, 6, 0, i, 0);
            x.flush(0);
        }
        x.get(5, 0, 0, 0);
        Check.is("20: a block of each table", x.looked(), 3);
        x.compact(0, 3);
        x.get(5, 0, 0, 0);
        Check.is("20: a block of the one", x.looked(), 4);
        x.get(6, 0, 0, 0);
        Check.is("20: two blocks for row 6", x.looked(), 6);
        x.split(0, 6);
        x.get(6, 0, 0, 0);
        Check.is("20: blocks are counted anew behind a split", x.looked(), 7);
        x.erase(6, -1, -1);
        x.apply();
        x.get(6, 0, 0, 0);
        Check.is("20: covered entries have blocks", x.looked(), 8);
        x.flush(1);
        x.get(6, 0, 0, 0);
        Check.is("20: so have erasures", x.looked(), 10);
        x.major(1);
        x.get(6, 0, 0, 0);
        Check.is("20: no table, no block", x.looked(), 10);
        put(x, 63, 0, 0, 0);
        x.flush(1);
        x.get(6, 0, 0, 0);
        Check.is("20: nothing is left of tables that were", x.looked(), 10);
        x.expect(5, 0, true, 0);
        x.put(5, 0, 0, 0);
        x.apply();
        x.major(0);
        x.tear();
        x.crash();
        Check.is("20: only get and scan look", x.looked(), 10);
    }
}
