/** Each sentence of promises 9, 10, 11 and 20 that names a boundary case: on the boundary, and one step to each side. */
public final class ReadEdgeTest {
    public static void main(String[] args) {
        getNotGreaterThanAt();
        getNth();
        getValueWithoutSign();
        getNoSuchRowOrColumn();
        getNoneThere();
        getLooksOrNot();
        scanRows();
        scanLowAndHigh();
        scanTimes();
        scanColumns();
        scanBadColumn();
        scanInOrder();
        scanHowMany();
        laterLeavesTheResult();
        foundK();
        foundNumbers();
        foundBeforeAnyScan();
        blocksOfTheRow();
        bothBits();
        oneBlockIfNone();
        bitsOfRowsThatLeft();
        lookedInAll();
        Check.end();
    }

    private static void getNotGreaterThanAt() {
        Check.sentence(9, "Of the live cells of a column with a time not greater than at");
        for (int time : Edge.TIMES) {
            TabletCells x = Edge.plain();
            Edge.put(x, 5, 3, time, 9);
            Check.is("at " + (time - 1), x.get(5, 3, time - 1, 0), TabletCells.BAD);
            Check.is("at " + time, x.get(5, 3, time, 0), Check.cell(time, 9));
            Check.is("at " + (time + 1), x.get(5, 3, time + 1, 0), Check.cell(time, 9));
            Check.is("at the greatest", x.get(5, 3, Edge.GREATEST, 0), Check.cell(time, 9));
            Check.is("at the least", x.get(5, 3, Edge.LEAST, 0), TabletCells.BAD);
        }
        TabletCells y = Edge.plain();
        Edge.put(y, 5, 3, 10, 1);
        Edge.put(y, 5, 3, 12, 2);
        for (int at = 9; at <= 13; at++) {
            Check.is("of 10 and 12, at " + at, y.get(5, 3, at, 0), at < 10 ? TabletCells.BAD : at < 12 ? Check.cell(10, 1) : Check.cell(12, 2));
        }
        Edge.erase(y, 5, 3, -1);
        Edge.erase(y, 5, -1, -1);
        Check.is("erasures are no cells, at -1", y.get(5, 3, -1, 0), TabletCells.BAD);
        Check.is("erasures are no cells, at 9999", y.get(5, 3, 9999, 0), TabletCells.BAD);
    }

    private static void getNth() {
        Check.sentence(9, "the n-th (from 0) by falling time");
        for (int cells = 0; cells <= 5; cells++) {
            TabletCells x = Edge.plain();
            Edge.putCells(x, 5, 3, cells);
            for (int n = -2; n <= 6; n++) {
                int time = cells - 1 - n;
                Check.is("n " + n + " of " + cells, x.get(5, 3, 9999, n), n >= 0 && n < cells ? Check.cell(time, time) : TabletCells.BAD);
                Check.is("n " + n + " of those not later than 1", x.get(5, 3, 1, n), nth(Math.min(cells, 2), n));
            }
            Check.is("n least", x.get(5, 3, 9999, Edge.LEAST), TabletCells.BAD);
            Check.is("n greatest", x.get(5, 3, 9999, Edge.GREATEST), TabletCells.BAD);
        }
    }

    private static long nth(int cells, int n) {
        return n >= 0 && n < cells ? Check.cell(cells - 1 - n, cells - 1 - n) : TabletCells.BAD;
    }

    private static void getValueWithoutSign() {
        Check.sentence(9, "4294967296 times its time, plus its value as a number of 32 bits without sign");
        int[] values = {Edge.LEAST, Edge.LEAST + 1, -2, -1, 0, 1, Edge.GREATEST};
        long[] numbers = {2147483648L, 2147483649L, 4294967294L, 4294967295L, 0L, 1L, 2147483647L};
        int[] times = {0, 1, 9998, 9999};
        long[] parts = {0L, 4294967296L, 42941083025408L, 42945377992704L};
        for (int i = 0; i < times.length; i++) {
            for (int k = 0; k < values.length; k++) {
                TabletCells x = Edge.plain();
                Edge.put(x, 63, 7, times[i], values[k]);
                Check.is("time " + times[i] + ", value " + values[k], x.get(63, 7, 9999, 0), parts[i] + numbers[k]);
            }
        }
    }

    /** One cell in the corner of each side, all in one table of four entries: one block. */
    private static TabletCells corners() {
        TabletCells x = Edge.plain();
        Edge.put(x, 0, 0, 0, 1);
        Edge.put(x, 0, 7, 0, 2);
        Edge.put(x, 63, 0, 0, 3);
        Edge.put(x, 63, 7, 0, 4);
        x.flush(0);
        return x;
    }

    private static void getNoSuchRowOrColumn() {
        Check.sentence(9, "BAD when there is none (or n is below 0), or no such row or column");
        TabletCells x = corners();
        Check.is("the first row and column", x.get(0, 0, 0, 0), 1);
        Check.is("the first row, the last column", x.get(0, 7, 0, 0), 2);
        Check.is("the last row, the first column", x.get(63, 0, 0, 0), 3);
        Check.is("the last row and column", x.get(63, 7, 0, 0), 4);
        for (int row : Edge.NO_ROWS) {
            Check.is("row " + row, x.get(row, 0, 9999, 0), TabletCells.BAD);
            Check.is("row " + row, x.get(row, 7, 9999, 0), TabletCells.BAD);
        }
        for (int column : Edge.NO_COLUMNS) {
            Check.is("column " + column, x.get(0, column, 9999, 0), TabletCells.BAD);
            Check.is("column " + column, x.get(63, column, 9999, 0), TabletCells.BAD);
        }
        TabletCells y = Edge.plain();
        Edge.erase(y, 0, -1, -1);
        Check.is("column -1, and an erasure of the row", y.get(0, -1, 9999, 0), TabletCells.BAD);
    }

    private static void getNoneThere() {
        Check.sentence(9, "BAD when there is none");
        for (int where = 0; where < 2; where++) {
            TabletCells x = Edge.plain();
            Edge.put(x, 5, 3, 7, 9);
            if (where == 1) {
                x.flush(0);
            }
            for (int row = 4; row <= 6; row++) {
                for (int column = 2; column <= 4; column++) {
                    boolean isThere = row == 5 && column == 3;
                    Check.is("row " + row + ", column " + column, x.get(row, column, 9999, 0), isThere ? Check.cell(7, 9) : TabletCells.BAD);
                }
            }
            Edge.erase(x, 5, 3, 6);
            Check.is("one time less was erased", x.get(5, 3, 9999, 0), Check.cell(7, 9));
            Edge.erase(x, 5, 3, 8);
            Check.is("one time more was erased", x.get(5, 3, 9999, 0), Check.cell(7, 9));
            Edge.erase(x, 5, 3, 7);
            Check.is("it was erased", x.get(5, 3, 9999, 0), TabletCells.BAD);
        }
    }

    private static void getLooksOrNot() {
        Check.sentence(9, "(nothing is looked at then, if there is no such row or column; else it is)");
        TabletCells x = corners();
        int looked = 0;
        for (int row = -1; row <= 64; row++) {
            x.get(row, 0, 9999, 0);
            looked += row == 0 || row == 63 ? 1 : 0;
            Check.is("row " + row, x.looked(), looked);
        }
        for (int column = -2; column <= 9; column++) {
            x.get(0, column, 9999, 0);
            looked += column >= 0 && column <= 7 ? 1 : 0;
            Check.is("column " + column, x.looked(), looked);
        }
        for (int n = -2; n <= 2; n++) {
            x.get(0, 0, 9999, n);
            looked++;
            Check.is("n " + n, x.looked(), looked);
        }
        for (int at : new int[] {Edge.LEAST, -2, -1, 0, 9999, 10000, Edge.GREATEST}) {
            x.get(0, 0, at, 0);
            looked++;
            Check.is("at " + at, x.looked(), looked);
        }
        for (int no : Edge.NO_ROWS) {
            x.get(no, 0, 0, -1);
        }
        for (int no : Edge.NO_COLUMNS) {
            x.get(0, no, 0, -1);
        }
        Check.is("no such row or column, and n below 0", x.looked(), looked);
    }

    /** A cell in each of the rows 0, 1, 62 and 63, each row in a table of its own, so that looking tells the rows. */
    private static TabletCells fourRows() {
        TabletCells x = Edge.plain();
        for (int row : new int[] {0, 1, 62, 63}) {
            Edge.put(x, row, 0, 0, row);
            x.flush(0);
        }
        return x;
    }

    private static boolean isWithin(int row, int low, int high) {
        return low <= row && row <= high;
    }

    private static void scanRows() {
        Check.sentence(10, "Looks for each of the rows from low to high, ascending (no others than 0 .. 63)");
        int[] bounds = {Edge.LEAST, -2, -1, 0, 1, 2, 61, 62, 63, 64, 65, Edge.GREATEST};
        for (int low : bounds) {
            TabletCells x = fourRows();
            int looked = 0;
            for (int high : bounds) {
                int due = 0;
                for (int row : new int[] {0, 1, 62, 63}) {
                    due += isWithin(row, low, high) ? 1 : 0;
                    looked += rowsSeenIn(row, low, high);
                }
                Check.is("scan(" + low + ", " + high + ")", x.scan(low, high, -1, 0, 9999), due);
                Check.is("scan(" + low + ", " + high + "), looked", x.looked(), looked);
                Check.is("scan(" + low + ", " + high + "), its end", x.found(due), TabletCells.BAD);
            }
        }
    }

    /** How many rows of a range a filter lets through that has the bits of one row. */
    private static int rowsSeenIn(int rowOfTable, int low, int high) {
        int seen = 0;
        for (int row = 0; row < 64; row++) {
            boolean hasBoth = hasBit(rowOfTable, (7 * row + 3) % 64) && hasBit(rowOfTable, (13 * row + 29) % 64);
            seen += isWithin(row, low, high) && hasBoth ? 1 : 0;
        }
        return seen;
    }

    private static void scanLowAndHigh() {
        Check.sentence(10, "Looks for each of the rows from low to high, ascending");
        TabletCells x = Edge.plain();
        Edge.put(x, 30, 0, 0, 1);
        Edge.put(x, 31, 0, 0, 2);
        Edge.put(x, 32, 0, 0, 3);
        for (int low = 29; low <= 33; low++) {
            for (int high = 29; high <= 33; high++) {
                int due = Math.max(0, Math.min(high, 32) - Math.max(low, 30) + 1);
                Check.is("scan(" + low + ", " + high + ")", x.scan(low, high, -1, 0, 9999), due);
                long first = due == 0 ? TabletCells.BAD : Check.cell(Math.max(low, 30), 0, 0, Math.max(low, 30) - 29);
                Check.is("scan(" + low + ", " + high + "), the first", x.found(0), first);
            }
        }
    }

    private static void scanTimes() {
        Check.sentence(10, "finds their live cells with a time from .. to");
        int[] bounds = {Edge.LEAST, -2, -1, 0, 1, 2, 4999, 5000, 5001, 9998, 9999, 10000, Edge.GREATEST};
        int[] times = {0, 1, 5000, 9998, 9999};
        for (int from : bounds) {
            TabletCells x = Edge.plain();
            for (int time : times) {
                Edge.put(x, 5, 7, time, 0);
            }
            Edge.erase(x, 5, 6, -1);
            Edge.erase(x, 4, -1, -1);
            for (int to : bounds) {
                int due = 0;
                for (int time : times) {
                    due += isWithin(time, from, to) ? 1 : 0;
                }
                Check.is("from " + from + " to " + to + ", one column", x.scan(0, 63, 7, from, to), due);
                Check.is("from " + from + " to " + to + ", all columns", x.scan(0, 63, -1, from, to), due);
            }
        }
    }

    private static void scanColumns() {
        Check.sentence(10, "of one column, or of all with column -1");
        TabletCells x = Edge.plain();
        for (int column : Edge.COLUMNS) {
            Edge.put(x, 5, column, column, column);
        }
        Check.is("all", x.scan(5, 5, -1, 0, 9999), 8);
        Check.is("all, the first", x.found(0), Check.cell(5, 0, 0, 0));
        Check.is("all, the last", x.found(7), Check.cell(5, 7, 7, 7));
        for (int column : Edge.COLUMNS) {
            Check.is("column " + column, x.scan(5, 5, column, 0, 9999), 1);
            Check.is("column " + column + ", its cell", x.found(0), Check.cell(5, column, column, column));
            Check.is("column " + column + ", its end", x.found(1), TabletCells.BAD);
        }
        Edge.erase(x, 5, 3, -1);
        Check.is("a column of an erasure alone", x.scan(5, 5, 3, -1, 9999), 0);
        Check.is("all but that one", x.scan(5, 5, -1, -1, 9999), 7);
    }

    private static void scanBadColumn() {
        Check.sentence(10, "(BAD, and the result stays, when column is not -1 .. 7.)");
        TabletCells x = fourRows();
        x.scan(1, 62, 0, 0, 9999);
        int looked = x.looked();
        for (int column : new int[] {Edge.LEAST, -3, -2, 8, 9, Edge.GREATEST}) {
            Check.is("column " + column, x.scan(0, 63, column, 0, 9999), TabletCells.BAD);
            Check.is("column " + column + ", no rows", x.scan(9, 8, column, 0, 9999), TabletCells.BAD);
            Check.is("the result", x.found(0), Check.cell(1, 0, 0, 1));
            Check.is("the result", x.found(1), Check.cell(62, 0, 0, 62));
            Check.is("its end", x.found(2), TabletCells.BAD);
            Check.is("looked", x.looked(), looked);
        }
        Check.is("column 7", x.scan(0, 63, 7, 0, 9999), 0);
        Check.is("a result of none", x.found(0), TabletCells.BAD);
        Check.is("column 8", x.scan(0, 63, 8, 0, 9999), TabletCells.BAD);
        Check.is("a result of none stays", x.found(0), TabletCells.BAD);
        Check.is("column -1", x.scan(0, 63, -1, 0, 9999), 4);
    }

    private static void scanInOrder() {
        Check.sentence(10, "They are the RESULT, in order (by rows, then columns, ascending, then by falling times");
        int[][] cells = {{31, 7, 0}, {32, 0, 0}, {32, 0, 9999}, {32, 3, 5}, {32, 3, 6}, {32, 4, 9999}, {33, 0, 1}, {33, 0, 2}};
        int[] order = {0, 2, 1, 4, 3, 5, 7, 6};
        for (int turn = 0; turn < 8; turn++) {
            TabletCells x = Edge.plain();
            for (int i = 0; i < 8; i++) {
                int[] c = cells[(i * 3 + turn) % 8];
                Edge.put(x, c[0], c[1], c[2], (i * 3 + turn) % 8);
                if (i == turn) {
                    x.flush(0);
                }
            }
            x.split(0, 32);
            Check.is("how many", x.scan(0, 63, -1, 0, 9999), 8);
            for (int k = 0; k < 8; k++) {
                int[] c = cells[order[k]];
                Check.is("found(" + k + ")", x.found(k), Check.cell(c[0], c[1], c[2], order[k]));
            }
        }
    }

    private static void scanHowMany() {
        Check.sentence(10, "Answers how many.");
        TabletCells x = Edge.plain();
        Check.is("none", x.scan(0, 63, -1, 0, 9999), 0);
        for (int row = 0; row < 60; row++) {
            for (int i = 0; i < 4; i++) {
                x.put(row, 2 * i, 9 - i, i);
            }
            x.apply();
            if (row % 20 == 0) {
                Check.is("four a row", x.scan(0, 63, -1, 0, 9999), 4 * row + 4);
                Check.is("the last", x.found(4 * row + 3), Check.cell(row, 6, 6, 3));
                Check.is("its end", x.found(4 * row + 4), TabletCells.BAD);
            }
        }
        Check.is("240", x.scan(0, 63, -1, 0, 9999), 240);
        Check.is("the last of 240", x.found(239), Check.cell(59, 6, 6, 3));
        Check.is("the end of 240", x.found(240), TabletCells.BAD);
    }

    private static void laterLeavesTheResult() {
        Check.sentence(10, "what comes later leaves it");
        TabletCells x = new TabletCells(0, 10, 0, 0);
        Edge.addTable(x, 5, 0, 2);
        x.scan(5, 5, 0, 0, 9999);
        Edge.put(x, 5, 0, 9, 9);
        Edge.put(x, 5, 0, 1, 9);
        resultOfTwo("put", x);
        Edge.erase(x, 5, -1, -1);
        resultOfTwo("erase", x);
        x.tick(100);
        resultOfTwo("tick", x);
        x.get(5, 0, 9999, 0);
        resultOfTwo("get", x);
        x.flush(0);
        x.compact(0, 2);
        x.major(0);
        resultOfTwo("major", x);
        x.split(0, 5);
        resultOfTwo("split", x);
        x.join(0);
        resultOfTwo("join", x);
        x.tear();
        x.crash();
        resultOfTwo("crash", x);
        x.scan(5, 5, 0, 0, 9999);
        Check.is("the next scan does not", x.found(0), TabletCells.BAD);
    }

    private static void resultOfTwo(String when, TabletCells x) {
        Check.is(when + ": found(0)", x.found(0), Check.cell(5, 0, 1, 1));
        Check.is(when + ": found(1)", x.found(1), Check.cell(5, 0, 0, 0));
        Check.is(when + ": found(2)", x.found(2), TabletCells.BAD);
    }

    private static void foundK() {
        Check.sentence(11, "Cell k (from 0) of the result of the latest scan");
        TabletCells x = Edge.plain();
        Edge.putCells(x, 5, 3, 3);
        for (int cells = 3; cells >= 0; cells--) {
            Check.is("scan", x.scan(5, 5, 3, 0, cells - 1), cells);
            for (int k = -2; k <= 4; k++) {
                int time = cells - 1 - k;
                Check.is("found(" + k + ") of " + cells, x.found(k), k >= 0 && k < cells ? Check.cell(5, 3, time, time) : TabletCells.BAD);
            }
            Check.is("found(least)", x.found(Edge.LEAST), TabletCells.BAD);
            Check.is("found(greatest)", x.found(Edge.GREATEST), TabletCells.BAD);
        }
    }

    private static void foundNumbers() {
        Check.sentence(11, "4294967296 times (80000 * row + 10000 * column + time), plus its value as a number of 32 bits without sign");
        int[][] cells = {{0, 0, 0}, {0, 0, 1}, {0, 0, 9999}, {0, 1, 0}, {0, 7, 9999}, {1, 0, 0}, {62, 7, 9999}, {63, 0, 0}, {63, 7, 9999}};
        long[] places = {0, 1, 9999, 10000, 79999, 80000, 5039999, 5040000, 5119999};
        for (int i = 0; i < cells.length; i++) {
            for (int value : Edge.VALUES) {
                TabletCells x = Edge.plain();
                Edge.put(x, cells[i][0], cells[i][1], cells[i][2], value);
                x.scan(0, 63, -1, 0, 9999);
                long unsigned = value < 0 ? value + 4294967296L : value;
                Check.is("place " + places[i] + ", value " + value, x.found(0), 4294967296L * places[i] + unsigned);
            }
        }
    }

    private static void foundBeforeAnyScan() {
        Check.sentence(11, "BAD when there is none.");
        TabletCells x = Edge.plain();
        Check.is("no scan", x.found(0), TabletCells.BAD);
        Edge.put(x, 0, 0, 0, 7);
        Check.is("a cell, but no scan", x.found(0), TabletCells.BAD);
        x.scan(0, 0, 8, 0, 0);
        Check.is("a refused scan", x.found(0), TabletCells.BAD);
        x.get(0, 0, 0, 0);
        Check.is("a get", x.found(0), TabletCells.BAD);
        x.scan(0, 0, 0, 0, 0);
        Check.is("a scan", x.found(0), 7);
        Check.is("its end", x.found(1), TabletCells.BAD);
    }

    /** Entries of a row behind some of a lower one, with one of a higher one behind them: all that fit a memtable. */
    private static void blocksOfTheRow() {
        Check.sentence(20, "the blocks that have an entry of the row are LOOKED AT");
        for (int ahead = 0; ahead <= 9; ahead++) {
            for (int cells = 1; ahead + cells <= 14; cells++) {
                TabletCells x = Edge.plain();
                Edge.putCells(x, 10, 0, ahead);
                Edge.putCells(x, 11, 0, cells);
                Edge.put(x, 12, 0, 0, 0);
                x.get(11, 0, 0, 0);
                Check.is("a memtable has none", x.looked(), 0);
                x.flush(0);
                x.get(11, 0, 0, 0);
                int blocks = (ahead + cells - 1) / 4 - ahead / 4 + 1;
                Check.is(cells + " entries behind " + ahead, x.looked(), blocks);
                x.scan(11, 11, 7, 0, 0);
                Check.is(cells + " entries behind " + ahead + ", scan", x.looked(), 2 * blocks);
                x.get(12, 0, 0, 0);
                Check.is("the last row", x.looked(), 2 * blocks + 1);
            }
        }
    }

    private static boolean hasBit(int row, int bit) {
        return (7 * row + 3) % 64 == bit || (13 * row + 29) % 64 == bit;
    }

    /** All pairs of rows: a table of the one, and looking for the other; none, one or both bits are set. */
    private static void bothBits() {
        Check.sentence(20, "of those in whose filter both bits of the row are set");
        int[] pairs = new int[3];
        for (int other = 0; other < 64; other++) {
            TabletCells x = Edge.plain();
            Edge.put(x, other, 0, 0, 0);
            x.flush(0);
            int looked = 0;
            for (int row = 0; row < 64; row++) {
                int bits = (hasBit(other, (7 * row + 3) % 64) ? 1 : 0) + (hasBit(other, (13 * row + 29) % 64) ? 1 : 0);
                pairs[bits]++;
                looked += bits == 2 ? 1 : 0;
                x.get(row, 0, 0, 0);
                Check.is("row " + row + " in a table of row " + other + ", " + bits + " bits", x.looked(), looked);
            }
        }
        Check.is("there are pairs with no bit, with one and with both", pairs[0] > 0 && pairs[1] > 0 && pairs[2] > 0, true);
    }

    /** A row that is not in the table, one bit of which is set by a second row and the other by a third. */
    private static void oneBlockIfNone() {
        Check.sentence(20, "or, if there is none, one block");
        int alarms = 0;
        for (int row = 0; row < 64; row++) {
            int first = rowWithBit(row, (7 * row + 3) % 64);
            int second = rowWithBit(row, (13 * row + 29) % 64);
            if (first >= 0 && second >= 0 && first != second) {
                alarms++;
                oneBlock(row, first, second);
            }
        }
        Check.is("there are such rows", alarms > 0, true);
    }

    /** Another row that sets a bit. */
    private static int rowWithBit(int row, int bit) {
        for (int other = 0; other < 64; other++) {
            if (other != row && hasBit(other, bit)) {
                return other;
            }
        }
        return -1;
    }

    private static void oneBlock(int row, int first, int second) {
        for (int cells = 1; cells <= 7; cells += 3) {
            TabletCells x = Edge.plain();
            Edge.addTable(x, first, 0, cells);
            x.get(row, 0, 0, 0);
            Check.is("row " + row + " in a table of row " + first + " alone", x.looked(), 0);
            TabletCells y = Edge.plain();
            Edge.putCells(y, first, 0, cells);
            Edge.putCells(y, second, 0, cells);
            y.flush(0);
            Check.is("row " + row + " is not there", y.get(row, 0, 9999, 0), TabletCells.BAD);
            Check.is("row " + row + " in a table of rows " + first + " and " + second + ", " + cells + " of each", y.looked(), 1);
        }
    }

    /** A filter has the bits of the rows that are in its table now, not of those that were. */
    private static void bitsOfRowsThatLeft() {
        Check.sentence(20, "for the row r of each entry the bits (7 * r + 3) mod 64 and (13 * r + 29) mod 64 are set");
        TabletCells x = Edge.plain();
        Edge.put(x, 4, 0, 0, 0);
        Edge.put(x, 5, 0, 0, 0);
        x.flush(0);
        x.get(5, 0, 0, 0);
        Check.is("row 5 is there", x.looked(), 1);
        Edge.erase(x, 5, 0, -1);
        x.get(5, 0, 0, 0);
        Check.is("row 5 is covered", x.looked(), 2);
        x.major(0);
        x.get(5, 0, 0, 0);
        Check.is("row 5 left", x.looked(), 2);
        x.get(4, 0, 0, 0);
        Check.is("row 4 is there", x.looked(), 3);
        Edge.put(x, 5, 0, 0, 0);
        x.flush(0);
        x.get(5, 0, 0, 0);
        Check.is("row 5 in a second table", x.looked(), 4);
        x.get(4, 0, 0, 0);
        Check.is("row 4 in the first alone", x.looked(), 5);
    }

    private static void lookedInAll() {
        Check.sentence(20, "How many blocks were looked at in all.");
        TabletCells x = Edge.plain();
        Check.is("at first", x.looked(), 0);
        for (int tables = 0; tables <= 3; tables++) {
            int looked = x.looked();
            x.get(5, 0, 0, 0);
            Check.is("get in " + tables + " tables", x.looked() - looked, tables);
            x.scan(4, 6, 0, 0, 0);
            Check.is("and scan", x.looked() - looked, 2 * tables);
            Edge.addTable(x, 5, 0, 1);
        }
        int looked = x.looked();
        x.expect(5, 0, true, 0);
        Edge.put(x, 5, 0, 0, 0);
        x.flush(0);
        x.compact(0, 2);
        x.major(0);
        x.split(0, 5);
        x.join(0);
        x.tick(1);
        x.tear();
        Edge.put(x, 5, 0, 0, 0);
        x.crash();
        x.found(0);
        x.log();
        Check.is("other calls look at none", x.looked(), looked);
        x.split(0, 5);
        x.get(4, 0, 0, 0);
        Check.is("a tablet without tables", x.looked(), looked);
        x.get(5, 0, 0, 0);
        Check.is("the tablet of the row", x.looked(), looked + 1);
        Edge.erase(x, 5, -1, -1);
        x.major(1);
        x.get(5, 0, 0, 0);
        Check.is("no tables any more", x.looked(), looked + 1);
    }
}
