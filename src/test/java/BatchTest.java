/** Promises 1 to 8: a new object, the batch, and the clock. */
public final class BatchTest {
    public static void main(String[] args) {
        promise1NewObject();
        promise1NearestNumbers();
        promise1NearestAges();
        promise2Put();
        promise2PutIntoFullOrOtherBatch();
        promise3Erase();
        promise3WhatErasuresCover();
        promise4Expect();
        promise4ExpectInPlaceOfAnother();
        promise5ApplyCounts();
        promise5ApplyBad();
        promise5ApplyFull();
        promise5ApplyUnmet();
        promise5ApplyFlushes();
        promise6Tear();
        promise6TearStaysOverBadAndFull();
        promise7Crash();
        promise8Tick();
        promise8TooOldForGood();
        Check.end();
    }

    private static void promise1NewObject() {
        TabletCells x = new TabletCells(0, 0, 0, 0);
        Check.is("1: apply()", x.apply(), TabletCells.BAD);
        Check.is("1: tick(0)", x.tick(0), 0);
        Check.is("1: tablet(0, 0)", x.tablet(0, 0), 0);
        Check.is("1: tablet(0, 1)", x.tablet(0, 1), 63);
        Check.is("1: tablet(0, 2)", x.tablet(0, 2), 0);
        Check.is("1: tablet(0, 3)", x.tablet(0, 3), 0);
        Check.is("1: tablet(1, 0)", x.tablet(1, 0), TabletCells.BAD);
        Check.is("1: log()", x.log(), 0);
        Check.is("1: looked()", x.looked(), 0);
        Check.is("1: found(0)", x.found(0), TabletCells.BAD);
        Check.is("1: scan of all", x.scan(0, 63, -1, 0, 9999), 0);
    }

    private static void promise1NearestNumbers() {
        int[] told = {Integer.MIN_VALUE, -1, 0, 1, 4, 5, 6, Integer.MAX_VALUE};
        int[] nearest = {0, 0, 0, 1, 4, 5, 5, 5};
        for (int i = 0; i < told.length; i++) {
            int left = nearest[i] == 0 ? 8 : nearest[i];
            Check.is("1: cells of column 3, number0 " + told[i], cellsLeft(new TabletCells(told[i], 0, 0, 0), 3), left);
            Check.is("1: cells of column 4, number0 " + told[i], cellsLeft(new TabletCells(told[i], 0, 0, 0), 4), 8);
            Check.is("1: cells of column 4, number1 " + told[i], cellsLeft(new TabletCells(0, 0, told[i], 0), 4), left);
            Check.is("1: cells of column 3, number1 " + told[i], cellsLeft(new TabletCells(0, 0, told[i], 0), 3), 8);
        }
    }

    private static int cellsLeft(TabletCells x, int column) {
        for (int time = 0; time < 8; time++) {
            x.put(7, column, time, time);
            x.apply();
        }
        return x.scan(7, 7, column, 0, 9999);
    }

    private static void promise1NearestAges() {
        int[] told = {Integer.MIN_VALUE, -1, 0, 1, 300, 9999, 10000, Integer.MAX_VALUE};
        int[] nearest = {0, 0, 0, 1, 300, 9999, 9999, 9999};
        for (int i = 0; i < told.length; i++) {
            Check.is("1: age0 " + told[i] + " in column 3", lastsFor(new TabletCells(0, told[i], 0, 0), 3), nearest[i]);
            Check.is("1: age0 " + told[i] + " in column 4", lastsFor(new TabletCells(0, told[i], 0, 0), 4), 0);
            Check.is("1: age1 " + told[i] + " in column 4", lastsFor(new TabletCells(0, 0, 0, told[i]), 4), nearest[i]);
            Check.is("1: age1 " + told[i] + " in column 3", lastsFor(new TabletCells(0, 0, 0, told[i]), 3), 0);
        }
    }

    /** At which clock a cell of time 0 is too old; 0 if it never is. */
    private static int lastsFor(TabletCells x, int column) {
        x.put(7, column, 0, 1);
        x.apply();
        int[] clocks = {1, 300, 9999, 15000};
        int clock = 0;
        for (int next : clocks) {
            for (int i = 0; i < 10 && clock < next - 1; i++) {
                clock = x.tick(Math.min(2000, next - 1 - clock));
            }
            boolean lastsBefore = x.scan(7, 7, column, 0, 0) == 1;
            clock = x.tick(1);
            boolean lasts = x.scan(7, 7, column, 0, 0) == 1;
            if (!lasts) {
                return lastsBefore ? clock : -clock;
            }
        }
        return 0;
    }

    private static void promise2Put() {
        TabletCells x = new TabletCells(0, 0, 0, 0);
        Check.is("2: row -1", x.put(-1, 0, 0, 0), false);
        Check.is("2: row 64", x.put(64, 0, 0, 0), false);
        Check.is("2: column -1", x.put(0, -1, 0, 0), false);
        Check.is("2: column 8", x.put(0, 8, 0, 0), false);
        Check.is("2: time -1", x.put(0, 0, -1, 0), false);
        Check.is("2: time 10000", x.put(0, 0, 10000, 0), false);
        Check.is("2: all three wrong", x.put(Integer.MAX_VALUE, Integer.MIN_VALUE, Integer.MAX_VALUE, 0), false);
        Check.is("2: nothing was taken", x.apply(), TabletCells.BAD);
        Check.is("2: least of all", x.put(0, 0, 0, Integer.MIN_VALUE), true);
        Check.is("2: apply least", x.apply(), 1);
        Check.is("2: greatest of all", x.put(63, 7, 9999, Integer.MAX_VALUE), true);
        Check.is("2: apply greatest", x.apply(), 1);
        Check.is("2: get least", x.get(0, 0, 0, 0), Check.cell(0, Integer.MIN_VALUE));
        Check.is("2: get greatest", x.get(63, 7, 9999, 0), Check.cell(9999, Integer.MAX_VALUE));
        Check.is("2: the same cell again", x.put(0, 0, 0, 5), true);
        Check.is("2: apply again", x.apply(), 1);
        Check.is("2: the later value", x.get(0, 0, 0, 0), Check.cell(0, 5));
        Check.is("2: the earlier is covered", x.get(0, 0, 0, 1), TabletCells.BAD);
    }

    private static void promise2PutIntoFullOrOtherBatch() {
        TabletCells x = new TabletCells(0, 0, 0, 0);
        Check.is("2: expectation of row 9", x.expect(9, 0, false, 0), true);
        Check.is("2: first", x.put(5, 0, 0, 10), true);
        Check.is("2: another row", x.put(6, 0, 0, 11), false);
        Check.is("2: second", x.put(5, 0, 1, 12), true);
        Check.is("2: third", x.put(5, 0, 2, 13), true);
        Check.is("2: fourth", x.put(5, 1, 3, 14), true);
        Check.is("2: fifth", x.put(5, 0, 4, 15), false);
        Check.is("2: apply", x.apply(), 4);
        Check.is("2: scan", x.scan(0, 63, -1, 0, 9999), 4);
        Check.is("2: found(0)", x.found(0), Check.cell(5, 0, 2, 13));
        Check.is("2: found(3)", x.found(3), Check.cell(5, 1, 3, 14));
        Check.is("2: another row in a new batch", x.put(6, 0, 0, 11), true);
    }

    private static void promise3Erase() {
        TabletCells x = new TabletCells(0, 0, 0, 0);
        Check.is("3: row -1", x.erase(-1, 0, 0), false);
        Check.is("3: row 64", x.erase(64, -1, -1), false);
        Check.is("3: column -2", x.erase(0, -2, -1), false);
        Check.is("3: column 8", x.erase(0, 8, -1), false);
        Check.is("3: time -2", x.erase(0, 0, -2), false);
        Check.is("3: time 10000", x.erase(0, 0, 10000), false);
        Check.is("3: the row, with a time", x.erase(0, -1, 0), false);
        Check.is("3: the row, with time 9999", x.erase(0, -1, 9999), false);
        Check.is("3: nothing was taken", x.apply(), TabletCells.BAD);
        Check.is("3: a cell", x.erase(63, 7, 9999), true);
        Check.is("3: another row", x.erase(62, 7, 9999), false);
        Check.is("3: a column", x.erase(63, 7, -1), true);
        Check.is("3: the row", x.erase(63, -1, -1), true);
        Check.is("3: the least cell", x.erase(63, 0, 0), true);
        Check.is("3: a fifth", x.erase(63, -1, -1), false);
        Check.is("3: a fifth that is a cell", x.put(63, 0, 0, 0), false);
        Check.is("3: apply", x.apply(), 4);
        Check.is("3: flush", x.flush(0), 4);
        Check.is("3: erasures", x.table(0, 0, 1), 4);
    }

    private static void promise3WhatErasuresCover() {
        TabletCells x = new TabletCells(0, 0, 0, 0);
        for (int row = 2; row <= 3; row++) {
            x.put(row, 0, 1, 1);
            x.put(row, 0, 2, 2);
            x.put(row, 1, 1, 3);
            x.put(row, 7, 1, 4);
            x.apply();
        }
        x.erase(2, 0, 1);
        x.apply();
        Check.is("3: a cell less", x.scan(0, 63, -1, 0, 9999), 7);
        Check.is("3: the other time is there", x.get(2, 0, 9999, 0), Check.cell(2, 2));
        Check.is("3: the time is not", x.get(2, 0, 9999, 1), TabletCells.BAD);
        x.erase(2, 0, -1);
        x.apply();
        Check.is("3: a column less", x.scan(0, 63, -1, 0, 9999), 6);
        Check.is("3: another column is there", x.get(2, 1, 9999, 0), Check.cell(1, 3));
        x.put(2, 0, 1, 9);
        x.apply();
        Check.is("3: a later cell is not covered", x.get(2, 0, 9999, 0), Check.cell(1, 9));
        x.erase(2, -1, -1);
        x.apply();
        Check.is("3: a row less", x.scan(0, 63, -1, 0, 9999), 4);
        Check.is("3: another row is there", x.scan(3, 3, -1, 0, 9999), 4);
        x.put(3, 0, 5, 5);
        x.erase(3, -1, -1);
        x.put(3, 0, 1, 8);
        x.apply();
        Check.is("3: the order in a batch counts", x.scan(3, 3, -1, 0, 9999), 1);
        Check.is("3: what came last", x.found(0), Check.cell(3, 0, 1, 8));
    }

    private static void promise4Expect() {
        TabletCells x = new TabletCells(0, 0, 0, 10);
        Check.is("4: row -1", x.expect(-1, 0, true, 0), false);
        Check.is("4: row 64", x.expect(64, 0, false, 0), false);
        Check.is("4: column -1", x.expect(0, -1, true, 0), false);
        Check.is("4: column 8", x.expect(0, 8, false, 0), false);
        x.put(1, 5, 3, 30);
        Check.is("4: refused ones were none", x.apply(), 1);
        x.put(1, 5, 4, 40);
        x.apply();
        Check.is("4: the latest has the value", tried(x, 1, 5, true, 40), 1);
        Check.is("4: an earlier one has it", tried(x, 1, 5, true, 30), 0);
        Check.is("4: there is one", tried(x, 1, 5, false, 40), 0);
        Check.is("4: none in another column", tried(x, 1, 6, false, 40), 1);
        Check.is("4: none with value 0", tried(x, 1, 6, true, 0), 0);
        Check.is("4: none in another row", tried(x, 63, 7, false, 1), 1);
        x.tick(13);
        Check.is("4: the earlier one is too old", tried(x, 1, 5, true, 40), 1);
        x.tick(1);
        Check.is("4: both are", tried(x, 1, 5, false, 0), 1);
        Check.is("4: a value that is too old", tried(x, 1, 5, true, 40), 0);
        Check.is("4: to expect looks at nothing", x.looked(), 0);
        x.put(1, 5, 20, 7);
        x.put(1, 5, 21, 8);
        x.apply();
        x.erase(1, 5, 21);
        x.apply();
        Check.is("4: an erased one does not count", tried(x, 1, 5, true, 7), 1);
    }

    /** The answer of a batch of one change, of row 40, with an expectation. */
    private static int tried(TabletCells x, int row, int column, boolean some, int value) {
        x.expect(row, column, some, value);
        x.put(40, 0, 0, 0);
        return x.apply();
    }

    private static void promise4ExpectInPlaceOfAnother() {
        TabletCells x = new TabletCells(0, 0, 0, 0);
        x.expect(1, 1, true, 5);
        Check.is("4: in place of it", x.expect(1, 1, false, 0), true);
        Check.is("4: a wrong one leaves it", x.expect(64, 1, true, 5), false);
        x.put(1, 1, 1, 1);
        Check.is("4: met", x.apply(), 1);
        x.put(1, 1, 1, 2);
        Check.is("4: gone with its batch", x.apply(), 1);
        x.put(1, 1, 2, 3);
        Check.is("4: behind the change", x.expect(1, 1, true, 3), true);
        Check.is("4: the batch's own changes do not meet it", x.apply(), 0);
    }

    private static void promise5ApplyCounts() {
        TabletCells x = new TabletCells(1, 0, 2, 0);
        x.put(3, 0, 5, 1);
        x.put(3, 0, 4, 2);
        x.put(3, 0, 6, 3);
        x.put(3, 1, 0, 4);
        Check.is("5: two erasures are asked for", x.apply(), 6);
        Check.is("5: memtable", x.tablet(0, 3), 6);
        Check.is("5: the least times went", x.get(3, 0, 9999, 0), Check.cell(6, 3));
        Check.is("5: and no more is there", x.get(3, 0, 9999, 1), TabletCells.BAD);
        x.put(3, 0, 6, 9);
        Check.is("5: the same time is no more cells", x.apply(), 1);
        x.put(3, 0, 2, 9);
        Check.is("5: the new one may be the least", x.apply(), 2);
        Check.is("5: it went at once", x.get(3, 0, 5, 0), TabletCells.BAD);
        x.put(3, 4, 1, 1);
        x.put(3, 4, 2, 1);
        x.put(3, 5, 3, 1);
        x.put(4, 4, 3, 1);
        Check.is("5: each column by itself", x.apply(), 3);
        x.put(3, 4, 3, 1);
        Check.is("5: a third in one column", x.apply(), 2);
        Check.is("5: its least went", x.scan(3, 3, 4, 0, 9999), 2);
        Check.is("5: by falling time", x.found(0), Check.cell(3, 4, 3, 1));
        Check.is("5: the least that stays", x.found(1), Check.cell(3, 4, 2, 1));
        x.erase(3, 4, -1);
        x.put(3, 4, 1, 1);
        Check.is("5: erased ones do not count", x.apply(), 2);
        TabletCells y = new TabletCells(1, 10, 0, 0);
        y.put(0, 0, 0, 1);
        y.apply();
        y.tick(10);
        y.put(0, 0, 50, 1);
        Check.is("5: ones that are too old do not count", y.apply(), 1);
        y.put(0, 0, 0, 1);
        Check.is("5: nor does a new one that is too old", y.apply(), 1);
    }

    private static void promise5ApplyBad() {
        TabletCells x = new TabletCells(0, 0, 0, 0);
        Check.is("5: no batch", x.apply(), TabletCells.BAD);
        x.expect(0, 0, true, 1);
        Check.is("5: an expectation alone", x.apply(), TabletCells.BAD);
        x.put(0, 0, 0, 1);
        Check.is("5: it stayed", x.apply(), 0);
        x.put(0, 0, 0, 1);
        Check.is("5: now it is gone", x.apply(), 1);
        Check.is("5: the batch is gone", x.apply(), TabletCells.BAD);
    }

    /** Four cells a batch, in rows from the first one on. */
    private static void fill(TabletCells x, int firstRow, int batches) {
        for (int i = 0; i < batches; i++) {
            for (int time = 0; time < 4; time++) {
                x.put(firstRow + i, 0, time, time);
            }
            x.apply();
        }
    }

    private static void promise5ApplyFull() {
        TabletCells x = new TabletCells(1, 0, 0, 0);
        TabletCells y = new TabletCells(0, 0, 0, 0);
        fill(y, 0, 59);
        y.put(60, 0, 0, 1);
        y.put(60, 0, 1, 1);
        y.put(60, 0, 2, 1);
        Check.is("5: up to 239", y.apply(), 3);
        fill(y, 61, 1);
        Check.is("5: with 239 all of it", y.scan(61, 61, 0, 0, 9999), 4);
        y.put(62, 0, 0, 1);
        y.expect(62, 0, true, 9);
        Check.is("5: 243", y.apply(), TabletCells.FULL);
        Check.is("5: nothing is there", y.scan(62, 62, -1, 0, 9999), 0);
        Check.is("5: all were flushed with the 243rd", y.flush(0), 0);
        Check.is("5: still 243", y.apply(), TabletCells.FULL);
        Check.is("5: the batch stays, and takes more", y.put(62, 0, 1, 1), true);
        Check.is("5: but not another row", y.put(63, 0, 1, 1), false);
        for (int i = 0; i < 34; i++) {
            x.put(i, 0, 0, 0);
            x.put(i, 0, 1, 0);
            x.put(i, 0, 2, 0);
            x.put(i, 0, 3, 0);
            Check.is("5: seven entries each", x.apply(), 7);
        }
        x.put(40, 0, 0, 0);
        Check.is("5: 239", x.apply(), 1);
        for (int time = 9; time > 5; time--) {
            x.put(40, 0, time, 0);
        }
        Check.is("5: eight entries of one batch", x.apply(), 8);
        Check.is("5: 247", x.scan(40, 40, -1, 0, 9999), 1);
        x.put(1, 0, 9, 9);
        Check.is("5: full", x.apply(), TabletCells.FULL);
        x.expect(1, 0, true, 3);
        Check.is("5: full, and not met", x.apply(), TabletCells.FULL);
        Check.is("5: live ones alone", x.major(0), 35);
        Check.is("5: the batch stayed with its expectation", x.apply(), 0);
        Check.is("5: and is gone", x.apply(), TabletCells.BAD);
        x.put(1, 0, 9, 9);
        Check.is("5: room again", x.apply(), 2);
    }

    private static void promise5ApplyUnmet() {
        TabletCells x = new TabletCells(0, 0, 0, 0);
        x.expect(0, 0, true, 1);
        x.put(0, 0, 0, 1);
        Check.is("5: not met", x.apply(), 0);
        Check.is("5: nothing is there", x.tablet(0, 3), 0);
        Check.is("5: nor in the log", x.log(), 0);
        Check.is("5: the batch is gone", x.apply(), TabletCells.BAD);
        Check.is("5: another row may come", x.put(1, 0, 0, 1), true);
        Check.is("5: its expectation is gone", x.apply(), 1);
    }

    private static void promise5ApplyFlushes() {
        TabletCells x = new TabletCells(0, 0, 0, 0);
        fill(x, 0, 3);
        x.put(9, 0, 0, 0);
        x.put(9, 0, 1, 0);
        x.put(9, 0, 2, 0);
        x.apply();
        Check.is("5: 15 stay", x.tablet(0, 3), 15);
        Check.is("5: no table", x.tablet(0, 2), 0);
        fill(x, 20, 1);
        Check.is("5: with 19 none stay", x.tablet(0, 3), 0);
        Check.is("5: one table", x.tablet(0, 2), 1);
        Check.is("5: of 19", x.table(0, 0, 0), 19);
        fill(x, 0, 4);
        Check.is("5: 16 become a table", x.table(0, 1, 0), 16);
        TabletCells y = new TabletCells(0, 0, 0, 0);
        y.split(0, 32);
        fill(y, 0, 3);
        fill(y, 40, 3);
        Check.is("5: each memtable by itself", y.tablet(0, 3) * 100 + y.tablet(1, 3), 1212);
        y.join(0);
        Check.is("5: to join flushes nothing", y.tablet(0, 3), 24);
        y.put(0, 0, 0, 0);
        y.expect(0, 0, false, 0);
        Check.is("5: not met", y.apply(), 0);
        Check.is("5: nor does a batch that was not applied", y.tablet(0, 3), 24);
        y.put(0, 0, 0, 0);
        y.apply();
        Check.is("5: the next one does", y.table(0, 0, 0), 25);
    }

    private static void promise6Tear() {
        TabletCells x = new TabletCells(0, 0, 0, 0);
        x.put(0, 0, 0, 1);
        x.tear();
        x.tear();
        Check.is("6: torn", x.apply(), TabletCells.TORN);
        Check.is("6: nothing was applied", x.tablet(0, 3), 0);
        Check.is("6: nothing is in the log", x.log(), 0);
        Check.is("6: the batch is gone", x.apply(), TabletCells.BAD);
        x.put(0, 0, 0, 1);
        Check.is("6: told twice, that one alone", x.apply(), 1);
        x.tear();
        x.expect(0, 0, true, 9);
        x.put(0, 0, 0, 2);
        Check.is("6: torn, and not met", x.apply(), TabletCells.TORN);
        x.put(1, 0, 0, 2);
        Check.is("6: the expectation is gone", x.apply(), 1);
        Check.is("6: what was there is there", x.get(0, 0, 0, 0), Check.cell(0, 1));
    }

    private static void promise6TearStaysOverBadAndFull() {
        TabletCells x = new TabletCells(0, 0, 0, 0);
        x.tear();
        Check.is("6: bad", x.apply(), TabletCells.BAD);
        x.put(0, 0, 0, 1);
        Check.is("6: torn then", x.apply(), TabletCells.TORN);
        fill(x, 0, 60);
        x.tear();
        x.put(63, 0, 0, 1);
        Check.is("6: full", x.apply(), TabletCells.FULL);
        Check.is("6: the batch stays", x.put(62, 0, 0, 1), false);
        x.erase(63, -1, -1);
        Check.is("6: full once more", x.apply(), TabletCells.FULL);
        Check.is("6: split", x.split(0, 30), true);
        x.tick(5000);
        x.flush(0);
        Check.is("6: all are live", x.major(0) + x.major(1), 240);
        Check.is("6: still full", x.apply(), TabletCells.FULL);
        TabletCells y = new TabletCells(0, 100, 0, 0);
        fill(y, 0, 60);
        y.tear();
        y.put(63, 0, 500, 1);
        Check.is("6: full first", y.apply(), TabletCells.FULL);
        y.tick(103);
        Check.is("6: all too old", y.major(0), 0);
        Check.is("6: torn now", y.apply(), TabletCells.TORN);
        Check.is("6: and gone", y.apply(), TabletCells.BAD);
    }

    private static void promise7Crash() {
        TabletCells x = new TabletCells(0, 0, 0, 0);
        x.put(1, 1, 1, 11);
        x.apply();
        x.put(2, 1, 1, 21);
        x.apply();
        x.flush(0);
        x.put(3, 1, 1, 31);
        x.apply();
        x.scan(0, 63, -1, 0, 9999);
        x.tick(7);
        x.split(0, 10);
        int looked = x.looked();
        x.expect(0, 0, true, 1);
        x.put(4, 1, 1, 41);
        x.crash();
        Check.is("7: the batch is gone", x.apply(), TabletCells.BAD);
        Check.is("7: another row may come", x.put(5, 1, 1, 51), true);
        Check.is("7: the expectation is gone", x.apply(), 1);
        Check.is("7: the result stays", x.found(2), Check.cell(3, 1, 1, 31));
        Check.is("7: and its end", x.found(3), TabletCells.BAD);
        Check.is("7: the memtable is as it was", x.tablet(0, 3), 2);
        Check.is("7: the log", x.log(), 2);
        Check.is("7: tables", x.tablet(0, 2), 1);
        Check.is("7: tablets", x.tablet(1, 0), 10);
        Check.is("7: the clock", x.tick(0), 7);
        Check.is("7: what was looked at", x.looked(), looked);
        Check.is("7: all cells", x.scan(0, 63, -1, 0, 9999), 4);
        x.tear();
        x.crash();
        x.put(6, 1, 1, 61);
        Check.is("7: that a record will be torn stays", x.apply(), TabletCells.TORN);
        Check.is("7: the result stays over a torn one", x.found(3), Check.cell(5, 1, 1, 51));
        x.expect(0, 0, true, 1);
        x.crash();
        x.put(6, 1, 1, 61);
        Check.is("7: an expectation alone is gone, too", x.apply(), 1);
    }

    private static void promise8Tick() {
        TabletCells x = new TabletCells(0, 0, 0, 0);
        Check.is("8: 0", x.tick(0), 0);
        Check.is("8: 1", x.tick(1), 1);
        Check.is("8: 5000", x.tick(5000), 5001);
        Check.is("8: 5001", x.tick(5001), 5001);
        Check.is("8: -1", x.tick(-1), 5001);
        Check.is("8: least", x.tick(Integer.MIN_VALUE), 5001);
        Check.is("8: greatest", x.tick(Integer.MAX_VALUE), 5001);
        Check.is("8: 5000 again", x.tick(5000), 10001);
    }

    private static void promise8TooOldForGood() {
        TabletCells x = new TabletCells(0, 10, 0, 20);
        x.put(0, 3, 5, 1);
        x.put(0, 4, 5, 2);
        x.put(0, 3, 6, 3);
        x.apply();
        x.tick(14);
        Check.is("8: all live", x.scan(0, 0, -1, 0, 9999), 3);
        x.tick(1);
        Check.is("8: time plus age is the clock", x.scan(0, 0, -1, 0, 9999), 2);
        Check.is("8: the later one", x.found(0), Check.cell(0, 3, 6, 3));
        Check.is("8: the other family", x.found(1), Check.cell(0, 4, 5, 2));
        Check.is("8: it is still an entry", x.tablet(0, 3), 3);
        x.put(0, 3, 5, 9);
        Check.is("8: one that is too old makes its entry", x.apply(), 1);
        Check.is("8: and is not live", x.scan(0, 0, 3, 5, 5), 0);
    }
}
