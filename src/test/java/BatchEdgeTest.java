/** Each sentence of promises 1 to 4 that names a boundary case: on the boundary, and one step to each side. */
public final class BatchEdgeTest {
    public static void main(String[] args) {
        nearestNumbers();
        nearestAges();
        noEntries();
        emptyBatch();
        putNumbers();
        putFourChanges();
        putOtherRow();
        eraseNumbers();
        eraseColumnAtMinusOne();
        eraseRowAtMinusOne();
        eraseFourChanges();
        eraseOtherRow();
        cellCoversItsPlaceAlone();
        columnCoversItselfAlone();
        rowCoversItselfAlone();
        onlyLowerSequences();
        expectInPlace();
        expectGreatestTime();
        expectNone();
        expectAnotherRow();
        expectNumbers();
        Check.end();
    }

    private static int nearest(int told, int greatest) {
        return told < 0 ? 0 : told > greatest ? greatest : told;
    }

    private static void nearestNumbers() {
        Check.sentence(1, "The numbers and ages of families 0 and 1 (the nearest one for numbers that aren't as said)");
        int[] told = {Edge.LEAST, -2, -1, 0, 1, 2, 3, 4, 5, 6, 7, Edge.GREATEST};
        for (int number : told) {
            int n = nearest(number, 5);
            TabletCells first = new TabletCells(number, 0, 0, 0);
            TabletCells second = new TabletCells(0, 0, number, 0);
            for (int column : Edge.COLUMNS) {
                Check.is("cells left in column " + column + ", number0 " + number, cellsLeft(first, column), column < 4 && n != 0 ? n : 7);
                Check.is("cells left in column " + column + ", number1 " + number, cellsLeft(second, column), column > 3 && n != 0 ? n : 7);
            }
        }
    }

    private static int cellsLeft(TabletCells x, int column) {
        Edge.putCells(x, column, column, 7);
        return x.scan(column, column, column, 0, 9999);
    }

    private static void nearestAges() {
        Check.sentence(1, "The numbers and ages of families 0 and 1 (the nearest one for numbers that aren't as said)");
        int[] told = {Edge.LEAST, -2, -1, 0, 1, 2, 300, 9998, 9999, 10000, 10001, Edge.GREATEST};
        for (int age : told) {
            lastFor("age0 " + age, new TabletCells(0, age, 0, 0), 0, nearest(age, 9999));
            lastFor("age1 " + age, new TabletCells(0, 0, 0, age), 4, nearest(age, 9999));
        }
    }

    /** Cells of time 0 in all columns: those of four columns last for an age, the others for good. */
    private static void lastFor(String told, TabletCells x, int firstColumn, int age) {
        for (int column : Edge.COLUMNS) {
            Edge.put(x, 9, column, 0, column);
        }
        Edge.tickTo(x, age == 0 ? 15000 : age - 1);
        Check.is(told + ": all columns, one step ahead", x.scan(9, 9, -1, 0, 0), 8);
        x.tick(1);
        int left = age == 0 ? 8 : 4;
        Check.is(told + ": all columns, on the step", x.scan(9, 9, -1, 0, 0), left);
        for (int column : Edge.COLUMNS) {
            boolean lasts = age == 0 || column < firstColumn || column > firstColumn + 3;
            Check.is(told + ": column " + column, x.scan(9, 9, column, 0, 0), lasts ? 1 : 0);
        }
    }

    private static void noEntries() {
        Check.sentence(1, "No entries, an empty batch.");
        TabletCells x = Edge.plain();
        Check.is("tablets", Edge.tablets(x), 1);
        Check.is("first row", x.tablet(0, 0), 0);
        Check.is("last row", x.tablet(0, 1), 63);
        Check.is("tables", x.tablet(0, 2), 0);
        Check.is("memtable", x.tablet(0, 3), 0);
        Check.is("the first table", x.table(0, 0, 0), TabletCells.BAD);
        Check.is("log", x.log(), 0);
        Check.is("looked", x.looked(), 0);
        Check.is("the clock", x.tick(0), 0);
        Check.is("a result", x.found(0), TabletCells.BAD);
        Check.is("get", x.get(0, 0, 9999, 0), TabletCells.BAD);
        Check.is("scan", x.scan(0, 63, -1, 0, 9999), 0);
        Check.is("flush", x.flush(0), 0);
        Check.is("major", x.major(0), 0);
    }

    private static void emptyBatch() {
        Check.sentence(1, "No entries, an empty batch.");
        Check.is("apply", Edge.plain().apply(), TabletCells.BAD);
        for (int row : Edge.ROWS) {
            TabletCells x = Edge.plain();
            for (int i = 0; i < 4; i++) {
                Check.is("it takes four changes of row " + row, x.put(row, 0, i, i), true);
            }
            Check.is("and no expectation or torn record holds them up", x.apply(), 4);
        }
    }

    private static void putNumbers() {
        Check.sentence(2, "False when a number is not as said");
        for (int row : Edge.ROWS) {
            for (int column : Edge.COLUMNS) {
                for (int time : Edge.TIMES) {
                    putTaken(row, column, time, row + column - time);
                }
            }
        }
        for (int value : Edge.VALUES) {
            putTaken(0, 0, 0, value);
        }
        for (int row : Edge.NO_ROWS) {
            putRefused(row, 0, 0);
        }
        for (int column : Edge.NO_COLUMNS) {
            putRefused(0, column, 0);
            putRefused(0, column, -1);
        }
        for (int time : Edge.NO_TIMES) {
            putRefused(63, 7, time);
        }
    }

    private static void putTaken(int row, int column, int time, int value) {
        String call = "put(" + row + ", " + column + ", " + time + ", " + value + ")";
        TabletCells x = Edge.plain();
        Check.is(call, x.put(row, column, time, value), true);
        Check.is(call + ", apply()", x.apply(), 1);
        Check.is(call + ", get", x.get(row, column, time, 0), Check.cell(time, value));
    }

    private static void putRefused(int row, int column, int time) {
        String call = "put(" + row + ", " + column + ", " + time + ", 0)";
        TabletCells x = Edge.plain();
        Check.is(call, x.put(row, column, time, 0), false);
        Check.is(call + ", apply()", x.apply(), TabletCells.BAD);
    }

    private static void putFourChanges() {
        Check.sentence(2, "the batch has four changes");
        for (int erasures = 0; erasures <= 4; erasures++) {
            TabletCells x = Edge.plain();
            for (int i = 0; i < erasures; i++) {
                x.erase(5, i, i);
            }
            for (int n = erasures; n <= 6; n++) {
                Check.is("put into a batch of " + n + ", " + erasures + " of them erasures", x.put(5, 0, n, n), n < 4);
            }
            Check.is("apply", x.apply(), 4);
            Check.is("cells", x.scan(0, 63, -1, 0, 9999), 4 - erasures);
        }
        TabletCells y = Edge.plain();
        for (int n = 0; n <= 4; n++) {
            y.expect(n, 0, false, 0);
            Check.is("put, where an expectation is no change, into a batch of " + n, y.put(5, 0, n, n), n < 4);
        }
        y.apply();
        Check.is("put into the next batch", y.put(5, 0, 9, 9), true);
    }

    private static void putOtherRow() {
        Check.sentence(2, "or changes of another row");
        for (int row = 1; row < 63; row++) {
            TabletCells x = Edge.plain();
            Check.is("put in row " + row, x.put(row, 0, 0, 1), true);
            Check.is("put in row " + (row - 1), x.put(row - 1, 0, 0, 2), false);
            Check.is("put in row " + (row + 1), x.put(row + 1, 0, 0, 3), false);
            Check.is("put in row " + row + " again", x.put(row, 0, 1, 4), true);
            Check.is("apply", x.apply(), 2);
            Check.is("cells of row " + row, x.scan(row, row, -1, 0, 9999), 2);
            Check.is("all cells", x.scan(0, 63, -1, 0, 9999), 2);
            Check.is("the next batch is of any row", x.put(row + 1, 0, 0, 3), true);
        }
        TabletCells y = Edge.plain();
        y.erase(8, -1, -1);
        Check.is("put behind an erasure of row 8, in row 9", y.put(9, 0, 0, 0), false);
        Check.is("put behind an erasure of row 8, in row 8", y.put(8, 0, 0, 0), true);
        TabletCells z = Edge.plain();
        z.expect(8, 0, false, 0);
        Check.is("put behind an expectation of row 8, in row 9", z.put(9, 0, 0, 0), true);
    }

    private static void eraseNumbers() {
        Check.sentence(3, "False as for put.");
        for (int row : Edge.ROWS) {
            eraseTaken(row, -1, -1);
            for (int column : Edge.COLUMNS) {
                eraseTaken(row, column, -1);
                for (int time : Edge.TIMES) {
                    eraseTaken(row, column, time);
                }
            }
        }
        for (int row : Edge.NO_ROWS) {
            eraseRefused(row, 0, 0);
            eraseRefused(row, 0, -1);
            eraseRefused(row, -1, -1);
        }
    }

    private static void eraseTaken(int row, int column, int time) {
        String call = "erase(" + row + ", " + column + ", " + time + ")";
        TabletCells x = Edge.plain();
        Check.is(call, x.erase(row, column, time), true);
        Check.is(call + ", apply()", x.apply(), 1);
        x.flush(0);
        Check.is(call + ", erasures of the table", x.table(0, 0, 1), 1);
        Check.is(call + ", row of the table", x.table(0, 0, 3), row);
    }

    private static void eraseRefused(int row, int column, int time) {
        String call = "erase(" + row + ", " + column + ", " + time + ")";
        TabletCells x = Edge.plain();
        Check.is(call, x.erase(row, column, time), false);
        Check.is(call + ", apply()", x.apply(), TabletCells.BAD);
    }

    /** Cells of the times 0 and 1 in columns 0 and 1 of rows 0 and 1: how many are left of them. */
    private static int leftBehind(int row, int column, int time) {
        TabletCells x = Edge.plain();
        for (int i = 0; i < 8; i++) {
            Edge.put(x, i / 4, i / 2 % 2, i % 2, i);
        }
        x.erase(row, column, time);
        x.apply();
        return x.scan(0, 63, -1, 0, 9999);
    }

    private static void eraseColumnAtMinusOne() {
        Check.sentence(3, "of a cell; of the column when time is -1");
        for (int time : new int[] {Edge.LEAST, -3, -2, 10000, 10001, Edge.GREATEST}) {
            eraseRefused(0, 0, time);
            eraseRefused(63, 7, time);
        }
        Check.is("cells left with time -2", leftBehind(0, 0, -2), 8);
        Check.is("cells left with time -1", leftBehind(0, 0, -1), 6);
        Check.is("cells left with time 0", leftBehind(0, 0, 0), 7);
        Check.is("cells left with time 1", leftBehind(0, 0, 1), 7);
        Check.is("cells left with time 2", leftBehind(0, 0, 2), 8);
    }

    private static void eraseRowAtMinusOne() {
        Check.sentence(3, "of the row when column is -1 (time is -1 then, too)");
        for (int column : new int[] {Edge.LEAST, -3, -2, 8, 9, Edge.GREATEST}) {
            eraseRefused(0, column, -1);
            eraseRefused(0, column, 0);
        }
        for (int time : new int[] {Edge.LEAST, -3, -2, 0, 1, 9998, 9999, 10000, Edge.GREATEST}) {
            eraseRefused(0, -1, time);
        }
        Check.is("cells left with column -2", leftBehind(0, -2, -1), 8);
        Check.is("cells left with column -1", leftBehind(0, -1, -1), 4);
        Check.is("cells left with column 0", leftBehind(0, 0, -1), 6);
        Check.is("cells left with column 1", leftBehind(0, 1, -1), 6);
        Check.is("cells left with column 2", leftBehind(0, 2, -1), 8);
        Check.is("cells left with column -1 and time 0", leftBehind(0, -1, 0), 8);
    }

    private static void eraseFourChanges() {
        Check.sentence(3, "False as for put.");
        for (int kind = 0; kind < 3; kind++) {
            TabletCells x = Edge.plain();
            for (int n = 0; n <= 6; n++) {
                boolean taken = x.erase(5, kind == 0 ? -1 : n, kind == 2 ? n : -1);
                Check.is("an erasure of kind " + kind + " into a batch of " + n, taken, n < 4);
            }
            Check.is("apply", x.apply(), 4);
        }
        TabletCells y = Edge.plain();
        for (int n = 0; n < 4; n++) {
            y.put(5, 0, n, n);
        }
        Check.is("an erasure into a batch of four cells", y.erase(5, -1, -1), false);
        Check.is("apply", y.apply(), 4);
        Check.is("cells", y.scan(5, 5, -1, 0, 9999), 4);
        Check.is("an erasure into the next batch", y.erase(5, -1, -1), true);
    }

    private static void eraseOtherRow() {
        Check.sentence(3, "False as for put.");
        int[][] kinds = {{-1, -1}, {0, -1}, {0, 0}};
        for (int row = 1; row < 63; row++) {
            for (int[] kind : kinds) {
                TabletCells x = Edge.plain();
                Check.is("erase in row " + row, x.erase(row, kind[0], kind[1]), true);
                Check.is("erase in row " + (row - 1), x.erase(row - 1, kind[0], kind[1]), false);
                Check.is("erase in row " + (row + 1), x.erase(row + 1, kind[0], kind[1]), false);
                Check.is("erase in row " + row + " again", x.erase(row, kind[0], kind[1]), true);
                Check.is("apply", x.apply(), 2);
            }
        }
    }

    /** How many of two entries, the first one earlier, a compaction leaves: 1 when the second one covers the first. */
    private static int leftOf(int[] first, int[] second) {
        TabletCells x = Edge.plain();
        applyAs(x, first);
        x.flush(0);
        applyAs(x, second);
        x.flush(0);
        return x.compact(0, 2);
    }

    /** {row, column, time} is an erasure, {row, column, time, value} a cell. */
    private static void applyAs(TabletCells x, int[] change) {
        if (change.length == 4) {
            Edge.put(x, change[0], change[1], change[2], change[3]);
        } else {
            Edge.erase(x, change[0], change[1], change[2]);
        }
    }

    private static void covers(String what, int[] second, int[] first, boolean does) {
        Check.is(what, leftOf(first, second), does ? 1 : 2);
    }

    private static void cellCoversItsPlaceAlone() {
        Check.sentence(3, "a cell or an erasure of a cell covers cells and erasures of a cell with the same row, column and time");
        int[][] seconds = {{5, 3, 7}, {5, 3, 7, 1}};
        for (int[] second : seconds) {
            covers("a cell of its place", second, new int[] {5, 3, 7, 0}, true);
            covers("an erasure of its place", second, new int[] {5, 3, 7}, true);
            covers("a cell one time less", second, new int[] {5, 3, 6, 0}, false);
            covers("a cell one time more", second, new int[] {5, 3, 8, 0}, false);
            covers("an erasure one time less", second, new int[] {5, 3, 6}, false);
            covers("an erasure one time more", second, new int[] {5, 3, 8}, false);
            covers("a cell one column less", second, new int[] {5, 2, 7, 0}, false);
            covers("a cell one column more", second, new int[] {5, 4, 7, 0}, false);
            covers("a cell one row less", second, new int[] {4, 3, 7, 0}, false);
            covers("a cell one row more", second, new int[] {6, 3, 7, 0}, false);
            covers("an erasure of its column", second, new int[] {5, 3, -1}, false);
            covers("an erasure of its row", second, new int[] {5, -1, -1}, false);
        }
        int[] atZero = {5, 0, 0};
        covers("an erasure of the column, by one of time 0", atZero, new int[] {5, 0, -1}, false);
        covers("an erasure of the row, by one of column 0", atZero, new int[] {5, -1, -1}, false);
    }

    private static void columnCoversItselfAlone() {
        Check.sentence(3, "an erasure of a column all of that column in that row but erasures of the row");
        int[] second = {5, 3, -1};
        covers("its cell of time 0", second, new int[] {5, 3, 0, 0}, true);
        covers("its cell of time 9999", second, new int[] {5, 3, 9999, 0}, true);
        covers("an erasure of its cell of time 0", second, new int[] {5, 3, 0}, true);
        covers("an erasure of its cell of time 9999", second, new int[] {5, 3, 9999}, true);
        covers("an erasure of it", second, new int[] {5, 3, -1}, true);
        covers("an erasure of its row", second, new int[] {5, -1, -1}, false);
        covers("an erasure of the row, by one of column 0", new int[] {5, 0, -1}, new int[] {5, -1, -1}, false);
        covers("a cell one column less", second, new int[] {5, 2, 0, 0}, false);
        covers("a cell one column more", second, new int[] {5, 4, 0, 0}, false);
        covers("an erasure of the column one less", second, new int[] {5, 2, -1}, false);
        covers("an erasure of the column one more", second, new int[] {5, 4, -1}, false);
        covers("a cell one row less", second, new int[] {4, 3, 0, 0}, false);
        covers("a cell one row more", second, new int[] {6, 3, 0, 0}, false);
    }

    private static void rowCoversItselfAlone() {
        Check.sentence(3, "an erasure of a row all of the row");
        int[] second = {5, -1, -1};
        covers("its cell of column 0", second, new int[] {5, 0, 0, 0}, true);
        covers("its cell of column 7", second, new int[] {5, 7, 9999, 0}, true);
        covers("an erasure of its cell", second, new int[] {5, 7, 9999}, true);
        covers("an erasure of its column", second, new int[] {5, 0, -1}, true);
        covers("an erasure of it", second, new int[] {5, -1, -1}, true);
        covers("a cell one row less", second, new int[] {4, 7, 9999, 0}, false);
        covers("a cell one row more", second, new int[] {6, 0, 0, 0}, false);
        covers("an erasure of the row one less", second, new int[] {4, -1, -1}, false);
        covers("an erasure of the row one more", second, new int[] {6, -1, -1}, false);
    }

    /** A cell and an erasure of each kind that has it, in both orders, in one batch and in two. */
    private static void onlyLowerSequences() {
        Check.sentence(3, "An entry COVERS all entries of a lower sequence that lie in what it says");
        int[][] erasures = {{5, 3, 7}, {5, 3, -1}, {5, -1, -1}};
        int[] cell = {5, 3, 7, 1};
        for (int[] erasure : erasures) {
            covers("the cell came first", erasure, cell, true);
            covers("the cell came last", cell, erasure, erasure[2] == 7);
            for (int isLast = 0; isLast <= 1; isLast++) {
                TabletCells x = Edge.plain();
                if (isLast == 0) {
                    x.put(5, 3, 7, 1);
                }
                x.erase(erasure[0], erasure[1], erasure[2]);
                if (isLast == 1) {
                    x.put(5, 3, 7, 1);
                }
                Check.is("both in one batch", x.apply(), 2);
                Check.is("live, the cell last or not", x.scan(5, 5, -1, 0, 9999), isLast);
                Check.is("left of both", x.major(0), isLast);
            }
        }
    }

    /** The answer of a batch of one change in row 40, with the expectation that the store has been told. */
    private static int tried(TabletCells x) {
        return Edge.put(x, 40, 0, 0, 0);
    }

    private static void expectInPlace() {
        Check.sentence(4, "The expectation of the batch, in place of one that it had");
        TabletCells x = Edge.plain();
        Check.is("none: apply", tried(x), 1);
        x.expect(1, 1, true, 5);
        Check.is("one that is not met: apply", tried(x), 0);
        Check.is("it is gone with its batch: apply", tried(x), 1);
        x.expect(1, 1, true, 5);
        x.expect(1, 1, false, 5);
        Check.is("one that is met in place of one that is not: apply", tried(x), 1);
        x.expect(1, 1, false, 5);
        x.expect(1, 2, true, 5);
        Check.is("one that is not met in place of one that is: apply", tried(x), 0);
        x.expect(1, 1, true, 5);
        x.expect(1, 1, true, 6);
        x.expect(2, 2, false, 0);
        Check.is("the third of three: apply", tried(x), 1);
        x.expect(1, 1, true, 5);
        Check.is("refused", x.expect(1, 8, false, 0), false);
        Check.is("what is refused is not in place of it: apply", tried(x), 0);
    }

    private static void expectGreatestTime() {
        Check.sentence(4, "that the live cell of a column with the greatest time has this value (some true)");
        TabletCells x = new TabletCells(0, 10, 0, 0);
        Edge.put(x, 1, 3, 8, 80);
        Edge.put(x, 1, 3, 7, 70);
        Edge.put(x, 1, 3, 6, 60);
        Edge.put(x, 1, 2, 9, 90);
        Edge.put(x, 1, 4, 9, 90);
        expectValue(x, "of three", 80);
        Edge.erase(x, 1, 3, 8);
        expectValue(x, "the greatest was erased", 70);
        Edge.put(x, 1, 3, 7, -1);
        expectValue(x, "it was put again", -1);
        x.tick(16);
        expectValue(x, "the other one is too old", -1);
        x.tick(1);
        for (int value = -2; value <= 1; value++) {
            Check.is("all are too old, value " + value + ": apply", triedValue(x, value), 0);
        }
        for (int value : Edge.VALUES) {
            Edge.put(x, 1, 3, 9000, value);
            expectValue(x, "a value of any size", value);
        }
    }

    private static int triedValue(TabletCells x, int value) {
        x.expect(1, 3, true, value);
        return tried(x);
    }

    private static void expectValue(TabletCells x, String when, int value) {
        Check.is(when + ", value " + value + " less one: apply", triedValue(x, value - 1), 0);
        Check.is(when + ", value " + value + ": apply", triedValue(x, value), 1);
        Check.is(when + ", value " + value + " and one: apply", triedValue(x, value + 1), 0);
    }

    private static void expectNone() {
        Check.sentence(4, "or that there is none (some false)");
        TabletCells x = new TabletCells(0, 0, 0, 10);
        Check.is("there is none: apply", triedNone(x), 1);
        Edge.put(x, 1, 3, 5, 0);
        Edge.put(x, 1, 5, 5, 0);
        Edge.put(x, 0, 4, 5, 0);
        Edge.put(x, 2, 4, 5, 0);
        Check.is("there is none, but all about it: apply", triedNone(x), 1);
        Edge.put(x, 1, 4, 5, 0);
        Check.is("there is one: apply", triedNone(x), 0);
        x.tick(14);
        Check.is("one that will be too old next: apply", triedNone(x), 0);
        x.tick(1);
        Check.is("one that is too old: apply", triedNone(x), 1);
        Edge.put(x, 1, 4, 5, 1);
        Check.is("one that was too old when it came: apply", triedNone(x), 1);
        Edge.put(x, 1, 4, 6, 1);
        Check.is("one that is not yet too old: apply", triedNone(x), 0);
        Edge.erase(x, 1, 4, -1);
        Check.is("one that was erased: apply", triedNone(x), 1);
    }

    private static int triedNone(TabletCells x) {
        x.expect(1, 4, false, 0);
        return tried(x);
    }

    private static void expectAnotherRow() {
        Check.sentence(4, "(The row may be another one.)");
        TabletCells x = Edge.plain();
        Edge.put(x, 32, 0, 0, 7);
        for (int row = 31; row <= 33; row++) {
            for (int expected = 31; expected <= 33; expected++) {
                x.put(row, 1, 1, 0);
                Check.is("expect behind the change", x.expect(expected, 0, true, 7), true);
                Check.is("a batch of row " + row + " that expects of row " + expected, x.apply(), expected == 32 ? 1 : 0);
                x.expect(expected, 0, true, 7);
                Check.is("a change behind it, of row " + row, x.put(row, 1, 1, 0), true);
                Check.is("a batch of row " + row + " that expects of row " + expected, x.apply(), expected == 32 ? 1 : 0);
            }
        }
        x.split(0, 32);
        x.put(1, 1, 1, 1);
        x.expect(32, 0, true, 7);
        Check.is("of another tablet", x.apply(), 1);
    }

    private static void expectNumbers() {
        Check.sentence(4, "False when there is no such row or column.");
        TabletCells x = Edge.plain();
        for (int row : Edge.ROWS) {
            for (int column : Edge.COLUMNS) {
                Check.is("expect(" + row + ", " + column + ")", x.expect(row, column, true, 0), true);
            }
        }
        x.crash();
        for (int row : Edge.NO_ROWS) {
            Check.is("expect(" + row + ", 0, true)", x.expect(row, 0, true, 0), false);
            Check.is("expect(" + row + ", 7, false)", x.expect(row, 7, false, 0), false);
        }
        for (int column : Edge.NO_COLUMNS) {
            Check.is("expect(0, " + column + ", true)", x.expect(0, column, true, 0), false);
            Check.is("expect(63, " + column + ", false)", x.expect(63, column, false, 0), false);
        }
        Check.is("none of these is expected: apply", tried(x), 1);
    }
}
