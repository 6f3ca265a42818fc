/** Each sentence of promises 5 to 8 that names a boundary case: on the boundary, and one step to each side. */
public final class ApplyEdgeTest {
    public static void main(String[] args) {
        noneAnyMore();
        changesOfABatch();
        moreThanNumber();
        leastTimeGoes();
        onlyLiveOnesCount();
        numberZero();
        badWithoutChanges();
        fullAt240();
        fullBatchStays();
        fullUntilOneLeaves();
        tornOnce();
        tornBehindBadAndFull();
        unmet();
        tornIfBoth();
        flushedAt16();
        flushedBehindTheBatch();
        flushedTabletAlone();
        flushedByABatchAlone();
        toldTwice();
        crashedBatch();
        crashLeavesTheRest();
        crashedMemtables();
        tickNumbers();
        tooOldAtTheClock();
        Check.end();
    }

    private static void noneAnyMore() {
        Check.sentence(5, "Applies the batch; there is none any more, then.");
        for (int changes = 1; changes <= 4; changes++) {
            TabletCells x = Edge.plain();
            for (int i = 0; i < changes; i++) {
                x.put(1, 0, i, i);
            }
            x.expect(1, 0, false, 0);
            Check.is("apply", x.apply(), changes);
            Check.is("apply again", x.apply(), TabletCells.BAD);
            Check.is("put in another row", x.put(2, 0, 0, 0), true);
            Check.is("apply, without the expectation", x.apply(), 1);
        }
    }

    private static void changesOfABatch() {
        Check.sentence(5, "Answers how many entries were made (erasures that number n asks for counted).");
        for (int changes = 1; changes <= 4; changes++) {
            TabletCells x = new TabletCells(1, 0, 0, 0);
            for (int i = 0; i < changes; i++) {
                x.put(1, 0, i, i);
            }
            Check.is("into an empty column", x.apply(), 2 * changes - 1);
            Check.is("memtable", x.tablet(0, 3), 2 * changes - 1);
            for (int i = 0; i < changes; i++) {
                x.put(1, 0, 10 + i, i);
            }
            Check.is("into a column that has its one cell", x.apply(), 2 * changes);
            Check.is("entries", Edge.entries(x), 4 * changes - 1);
            for (int i = 0; i < changes; i++) {
                x.erase(1, i, 0);
            }
            Check.is("erasures ask for none", x.apply(), changes);
        }
    }

    private static void moreThanNumber() {
        Check.sentence(5, "the row has more than n live cells in that column then, an erasure of the live one with the least time is made behind it");
        for (int n = 1; n <= 5; n++) {
            for (int column = 3; column <= 4; column++) {
                TabletCells x = column == 3 ? new TabletCells(n, 0, 0, 0) : new TabletCells(0, 0, n, 0);
                for (int cells = 1; cells <= n + 2; cells++) {
                    String when = "number " + n + ", cell " + cells + " of column " + column;
                    Check.is(when, Edge.put(x, 7, column, cells, cells), cells <= n ? 1 : 2);
                    Check.is(when + ": cells left", x.scan(7, 7, column, 0, 9999), Math.min(cells, n));
                    Check.is(when + ": the least", x.found(Math.min(cells, n) - 1), Check.cell(7, column, Math.max(1, cells - n + 1), Math.max(1, cells - n + 1)));
                }
                Check.is("another column has none", Edge.put(x, 7, column == 3 ? 2 : 5, 0, 0), 1);
                Check.is("another row has none", Edge.put(x, 8, column, 0, 0), 1);
            }
        }
    }

    private static void leastTimeGoes() {
        Check.sentence(5, "the row has more than n live cells in that column then, an erasure of the live one with the least time is made behind it");
        for (int time = 4; time <= 11; time++) {
            if (time % 5 == 0) {
                continue;
            }
            TabletCells x = new TabletCells(2, 0, 0, 0);
            Edge.put(x, 7, 0, 5, 1);
            Edge.put(x, 7, 0, 10, 2);
            Check.is("a cell of time " + time + " with cells of 5 and 10", Edge.put(x, 7, 0, time, 3), 2);
            int greater = Math.max(10, time);
            int lesser = time < 5 ? 5 : Math.min(10, time);
            Check.is("the greatest time", x.get(7, 0, 9999, 0) >> 32, greater);
            Check.is("the second", x.get(7, 0, 9999, 1) >> 32, lesser);
            Check.is("no third", x.get(7, 0, 9999, 2), TabletCells.BAD);
        }
    }

    private static void onlyLiveOnesCount() {
        Check.sentence(5, "the row has more than n live cells in that column then, an erasure of the live one with the least time is made behind it");
        TabletCells x = new TabletCells(1, 10, 0, 0);
        Edge.put(x, 7, 0, 5, 1);
        Check.is("the same time", Edge.put(x, 7, 0, 5, 2), 1);
        Edge.erase(x, 7, 0, 5);
        Check.is("an erased cell", Edge.put(x, 7, 0, 6, 2), 1);
        Edge.erase(x, 7, 0, -1);
        Check.is("an erased column", Edge.put(x, 7, 0, 6, 2), 1);
        Edge.erase(x, 7, -1, -1);
        Check.is("an erased row", Edge.put(x, 7, 0, 6, 2), 1);
        x.tick(15);
        Check.is("one that will be too old next", Edge.put(x, 7, 0, 7, 2), 2);
        x.tick(2);
        Check.is("one that is too old", Edge.put(x, 7, 0, 8, 2), 1);
        Check.is("a new one that is too old", Edge.put(x, 7, 0, 7, 3), 1);
        Check.is("a new one that is not yet too old", Edge.put(x, 7, 0, 9, 3), 2);
    }

    private static void numberZero() {
        Check.sentence(5, "when that is a cell of a family with a number n that isn't 0");
        TabletCells x = Edge.plain();
        for (int time = 0; time < 20; time++) {
            Check.is("number 0, cell " + time, Edge.put(x, 0, 0, time, time) + Edge.put(x, 0, 7, time, time), 2);
        }
        Check.is("cells", x.scan(0, 0, -1, 0, 9999), 40);
    }

    private static void badWithoutChanges() {
        Check.sentence(5, "BAD when it has no changes (an expectation stays)");
        TabletCells x = Edge.plain();
        Check.is("no change: apply", x.apply(), TabletCells.BAD);
        x.expect(1, 0, true, 5);
        Check.is("an expectation alone: apply", x.apply(), TabletCells.BAD);
        Check.is("apply again", x.apply(), TabletCells.BAD);
        Check.is("it stays, for one change: apply", Edge.put(x, 2, 0, 0, 0), 0);
        x.expect(1, 0, false, 5);
        x.apply();
        Check.is("one that is met stays: apply", Edge.put(x, 1, 0, 0, 0), 1);
        x.put(1, 0, 10000, 0);
        Check.is("a refused change is none: apply", x.apply(), TabletCells.BAD);
    }

    private static void fullAt240() {
        Check.sentence(5, "FULL when there are 240 entries or more in all tablets (the batch stays; with 239 all of it is applied).");
        for (int entries = 237; entries <= 247; entries++) {
            for (int more = 1; more <= 8; more++) {
                TabletCells x = Edge.ofEntries(entries);
                String when = entries + " entries, a batch of " + more;
                Check.is("entries", Edge.entries(x), entries);
                Edge.addChanges(x, 56, more, 9000);
                Check.is(when, x.apply(), entries < 240 ? more : TabletCells.FULL);
                Check.is(when + ", entries then", Edge.entries(x), entries < 240 ? entries + more : entries);
                Check.is(when + ", put in another row", x.put(1, 0, 0, 0), entries < 240);
            }
        }
    }

    private static void fullBatchStays() {
        Check.sentence(5, "FULL when there are 240 entries or more in all tablets (the batch stays");
        for (int isMet = 0; isMet <= 1; isMet++) {
            TabletCells x = Edge.ofEntries(240);
            Edge.addChanges(x, 56, 6, 9000);
            x.expect(0, 7, isMet == 0, 1);
            Check.is("full", x.apply(), TabletCells.FULL);
            Check.is("again", x.apply(), TabletCells.FULL);
            Check.is("a fourth change", x.put(56, 0, 9009, 4), true);
            Check.is("a fifth change", x.put(56, 0, 9010, 5), false);
            Check.is("full with four", x.apply(), TabletCells.FULL);
            for (int t = 0; t < 8; t++) {
                x.major(t);
            }
            Check.is("room: all of it, if its expectation is met", x.apply(), isMet == 1 ? 8 : 0);
            Check.is("and there is none any more", x.apply(), TabletCells.BAD);
        }
        TabletCells y = Edge.ofEntries(240);
        Check.is("full, and no changes", y.apply(), TabletCells.BAD);
    }

    /** 236 cells, and then four tables of one entry, the last of which covers the one ahead of it. */
    private static void fullUntilOneLeaves() {
        Check.sentence(5, "FULL when there are 240 entries or more in all tablets");
        TabletCells x = Edge.plain();
        for (int row = 0; row < 59; row++) {
            for (int time = 0; time < 4; time++) {
                x.put(row, 0, time, time);
            }
            x.apply();
        }
        x.flush(0);
        for (int i = 0; i < 4; i++) {
            Edge.put(x, Math.min(60 + i, 62), 0, 0, i);
            x.flush(0);
        }
        for (int time = 0; time < 4; time++) {
            x.put(63, 0, time, time);
        }
        Check.is("240", x.apply(), TabletCells.FULL);
        Check.is("one leaves", x.compact(0, 2), 1);
        Check.is("239", x.apply(), 4);
        Check.is("243", Edge.put(x, 63, 1, 0, 0), TabletCells.FULL);
        Check.is("all cells are live", x.scan(0, 63, -1, 0, 9999), 243);
    }

    private static void tornOnce() {
        Check.sentence(5, "TORN when tear() was called since the last apply that was neither BAD nor FULL: nothing is applied, and a crash follows.");
        TabletCells x = Edge.plain();
        Check.is("not called", Edge.put(x, 1, 0, 0, 1), 1);
        x.tear();
        x.put(1, 0, 1, 1);
        x.expect(1, 0, true, 1);
        Check.is("called", x.apply(), TabletCells.TORN);
        Check.is("nothing is applied", Edge.entries(x), 1);
        Check.is("nothing is in the log", x.log(), 1);
        Check.is("the batch is gone", x.apply(), TabletCells.BAD);
        Check.is("called ahead of that one", Edge.put(x, 2, 0, 1, 1), 1);
        x.put(3, 0, 0, 0);
        x.expect(3, 0, true, 1);
        x.tear();
        Check.is("called behind the changes", x.apply(), TabletCells.TORN);
        Check.is("the expectation is gone", Edge.put(x, 3, 0, 0, 0), 1);
        x.expect(3, 0, false, 0);
        Check.is("one that is not met", Edge.put(x, 3, 0, 0, 0), 0);
        x.tear();
        Check.is("called behind that", Edge.put(x, 3, 0, 0, 0), TabletCells.TORN);
    }

    private static void tornBehindBadAndFull() {
        Check.sentence(5, "TORN when tear() was called since the last apply that was neither BAD nor FULL");
        TabletCells x = Edge.plain();
        x.tear();
        Check.is("no changes", x.apply(), TabletCells.BAD);
        Check.is("no changes again", x.apply(), TabletCells.BAD);
        Check.is("called ahead of a BAD one", Edge.put(x, 1, 0, 0, 0), TabletCells.TORN);
        Check.is("no changes", x.apply(), TabletCells.BAD);
        Check.is("BAD calls for none", Edge.put(x, 1, 0, 0, 0), 1);
        for (int entries = 239; entries <= 241; entries++) {
            TabletCells y = Edge.ofEntries(entries);
            y.tear();
            Check.is("torn, or full first", Edge.put(y, 1, 0, 0, 0), entries < 240 ? TabletCells.TORN : TabletCells.FULL);
            for (int t = 0; t < 8; t++) {
                y.major(t);
            }
            Check.is("the batch then", y.apply(), entries < 240 ? TabletCells.BAD : TabletCells.TORN);
            Check.is("the next batch", Edge.put(y, 1, 0, 0, 0), 1);
        }
    }

    private static void unmet() {
        Check.sentence(5, "0 when the expectation is not met: nothing is applied.");
        for (int changes = 0; changes <= 4; changes++) {
            TabletCells x = Edge.plain();
            x.expect(1, 0, true, 0);
            for (int i = 0; i < changes; i++) {
                x.put(1, 0, i, 0);
            }
            Check.is("apply", x.apply(), changes == 0 ? TabletCells.BAD : 0);
            Check.is("entries", Edge.entries(x), 0);
            Check.is("log", x.log(), 0);
            Check.is("cells", x.scan(0, 63, -1, 0, 9999), 0);
            Check.is("the batch is gone", x.apply(), TabletCells.BAD);
            Check.is("put in another row", x.put(2, 0, 0, 0), true);
            Check.is("the expectation is gone, but from a BAD one", x.apply(), changes == 0 ? 0 : 1);
        }
        TabletCells y = Edge.plain();
        y.put(1, 0, 5, 7);
        y.expect(1, 0, true, 7);
        Check.is("what the batch itself would bring", y.apply(), 0);
        y.put(1, 0, 5, 7);
        y.expect(1, 0, false, 7);
        Check.is("what it would bring is not there yet", y.apply(), 1);
    }

    private static void tornIfBoth() {
        Check.sentence(5, "(TORN, if both.)");
        for (int both = 0; both < 4; both++) {
            TabletCells x = Edge.plain();
            x.expect(1, 0, both % 2 == 1, 5);
            if (both >= 2) {
                x.tear();
            }
            int due = both >= 2 ? TabletCells.TORN : both == 1 ? 0 : 1;
            Check.is("torn " + (both >= 2) + ", unmet " + (both % 2 == 1), Edge.put(x, 1, 0, 0, 0), due);
            Check.is("the next one", Edge.put(x, 2, 0, 0, 0), 1);
        }
    }

    private static void flushedAt16() {
        Check.sentence(5, "When a batch has been applied and the memtable has 16 entries or more, the tablet is flushed.");
        for (int entries = 8; entries <= 15; entries++) {
            for (int more = 1; more <= 8; more++) {
                TabletCells x = new TabletCells(1, 0, 0, 0);
                Edge.putCells(x, 9, 4, entries - 1);
                Edge.put(x, 9, 0, 0, 0);
                Check.is("memtable", x.tablet(0, 3), entries);
                Edge.addChanges(x, 9, more, 100);
                Check.is("apply", x.apply(), more);
                int all = entries + more;
                String when = entries + " and " + more;
                Check.is(when + ": memtable", x.tablet(0, 3), all < 16 ? all : 0);
                Check.is(when + ": tables", x.tablet(0, 2), all < 16 ? 0 : 1);
                Check.is(when + ": entries of the table", x.table(0, 0, 0), all < 16 ? TabletCells.BAD : all);
                Check.is(when + ": log", x.log(), all < 16 ? entries + 1 : 0);
            }
        }
    }

    private static void flushedBehindTheBatch() {
        Check.sentence(5, "When a batch has been applied and the memtable has 16 entries or more, the tablet is flushed.");
        TabletCells x = Edge.plain();
        Edge.putCells(x, 1, 0, 15);
        for (int i = 0; i < 4; i++) {
            Check.is("a change that is not applied", x.put(2, 0, i, i), true);
            Check.is("does not flush", x.tablet(0, 3), 15);
        }
        Check.is("apply", x.apply(), 4);
        Check.is("the whole batch in one table", x.table(0, 0, 0), 19);
        Check.is("and none in the memtable", x.tablet(0, 3), 0);
        Edge.putCells(x, 3, 0, 16);
        Check.is("from none on again", x.table(0, 1, 0), 16);
    }

    private static void flushedTabletAlone() {
        Check.sentence(5, "When a batch has been applied and the memtable has 16 entries or more, the tablet is flushed.");
        TabletCells x = Edge.plain();
        x.split(0, 32);
        Edge.putCells(x, 31, 0, 15);
        Edge.putCells(x, 32, 0, 15);
        Check.is("15 in the first", x.tablet(0, 3), 15);
        Check.is("15 in the second", x.tablet(1, 3), 15);
        Edge.put(x, 32, 1, 0, 0);
        Check.is("15 in the first still", x.tablet(0, 3), 15);
        Check.is("16 in the second were flushed", x.table(1, 0, 0), 16);
        Edge.put(x, 31, 1, 0, 0);
        Check.is("16 in the first were flushed", x.table(0, 0, 0), 16);
        Check.is("the second has one table still", x.tablet(1, 2), 1);
    }

    /** A join may bring a memtable over 16: only a batch that is applied, in that tablet, flushes it. */
    private static void flushedByABatchAlone() {
        Check.sentence(5, "When a batch has been applied and the memtable has 16 entries or more, the tablet is flushed.");
        for (int entries = 13; entries <= 16; entries++) {
            TabletCells x = Edge.plain();
            x.split(0, 16);
            x.split(1, 32);
            Edge.putCells(x, 15, 0, 8);
            Edge.putCells(x, 16, 0, entries - 8);
            x.join(0);
            Check.is("joined", x.tablet(0, 3), entries);
            x.put(1, 0, 0, 0);
            x.expect(1, 0, true, 0);
            x.apply();
            Check.is("one that is not met", x.tablet(0, 3), entries);
            x.tear();
            Edge.put(x, 1, 0, 0, 0);
            Check.is("one that is torn", x.tablet(0, 3), entries);
            x.apply();
            Check.is("one without changes", x.tablet(0, 3), entries);
            Edge.put(x, 32, 0, 0, 0);
            Check.is("one of another tablet", x.tablet(0, 3), entries);
            Edge.put(x, 1, 0, 0, 0);
            Check.is("one of this tablet, over " + entries, x.tablet(0, 3), entries < 15 ? entries + 1 : 0);
            Check.is("the other tablet's memtable", x.tablet(1, 3), 1);
        }
    }

    private static void toldTwice() {
        Check.sentence(6, "The record of the next batch that is applied will be torn (told twice: that one alone).");
        for (int told = 0; told <= 3; told++) {
            TabletCells x = Edge.plain();
            for (int i = 0; i < told; i++) {
                x.tear();
            }
            Check.is("told " + told + " times, the first", Edge.put(x, 1, 0, 0, 0), told == 0 ? 1 : TabletCells.TORN);
            Check.is("told " + told + " times, the second", Edge.put(x, 1, 0, 0, 0), 1);
            Check.is("told " + told + " times, the third", Edge.put(x, 1, 0, 0, 0), 1);
            x.tear();
            Check.is("told anew", Edge.put(x, 1, 0, 0, 0), TabletCells.TORN);
            Check.is("and not again", Edge.put(x, 1, 0, 0, 0), 1);
        }
    }

    private static void crashedBatch() {
        Check.sentence(7, "A crash: the batch is gone, with its expectation");
        for (int changes = 0; changes <= 4; changes++) {
            TabletCells x = Edge.plain();
            x.expect(1, 0, true, 5);
            for (int i = 0; i < changes; i++) {
                x.put(1, 0, i, i);
            }
            x.crash();
            Check.is("apply", x.apply(), TabletCells.BAD);
            Check.is("entries", Edge.entries(x), 0);
            for (int i = 0; i < 4; i++) {
                Check.is("it takes four of another row", x.erase(2, i, i), true);
            }
            Check.is("a fifth", x.erase(2, 4, 4), false);
            Check.is("apply, without the expectation", x.apply(), 4);
        }
    }

    private static void crashLeavesTheRest() {
        Check.sentence(7, "(the result, and that a record will be torn, stay)");
        for (int cells = 0; cells <= 2; cells++) {
            TabletCells x = Edge.plain();
            Edge.addTable(x, 1, 0, cells);
            Edge.putCells(x, 9, 0, 1);
            x.scan(1, 1, 0, 0, 9999);
            x.tick(7);
            x.tear();
            int looked = x.looked();
            x.crash();
            x.crash();
            for (int k = -1; k <= 2; k++) {
                Check.is("found(" + k + ") of " + cells, x.found(k), k >= 0 && k < cells ? Check.cell(1, 0, cells - 1 - k, cells - 1 - k) : TabletCells.BAD);
            }
            Check.is("looked", x.looked(), looked);
            Check.is("the clock", x.tick(0), 7);
            Check.is("torn", Edge.put(x, 1, 0, 0, 0), TabletCells.TORN);
            x.crash();
            Check.is("not torn", Edge.put(x, 1, 0, 0, 0), 1);
        }
    }

    private static void crashedMemtables() {
        Check.sentence(7, "(Memtables are made again from the log, as they were.)");
        for (int entries = 0; entries <= 17; entries++) {
            TabletCells x = Edge.plain();
            x.split(0, 32);
            Edge.putCells(x, 31, 0, entries);
            Edge.put(x, 32, 0, 0, 0);
            Edge.erase(x, 32, 0, 0);
            x.crash();
            Check.is("memtable of " + entries, x.tablet(0, 3), entries < 16 ? entries : entries - 16);
            Check.is("tables of " + entries, x.tablet(0, 2), entries < 16 ? 0 : 1);
            Check.is("the other memtable", x.tablet(1, 3), 2);
            Check.is("log", x.log(), 2 + (entries < 16 ? entries : entries - 16));
            Check.is("cells", x.scan(0, 63, -1, 0, 9999), entries);
            Check.is("flush", x.flush(0), entries < 16 ? entries : entries - 16);
        }
    }

    private static void tickNumbers() {
        Check.sentence(8, "The clock goes on by n when n is 0 .. 5000 (otherwise it stays); answers it.");
        int[] told = {Edge.LEAST, -5000, -2, -1, 0, 1, 2, 4999, 5000, 5001, 5002, Edge.GREATEST};
        for (int n : told) {
            TabletCells x = Edge.plain();
            int on = n < 0 || n > 5000 ? 0 : n;
            Check.is("tick(" + n + ") at 0", x.tick(n), on);
            Check.is("tick(100)", x.tick(100), on + 100);
            Check.is("tick(" + n + ") at another", x.tick(n), 2 * on + 100);
            Check.is("tick(0)", x.tick(0), 2 * on + 100);
        }
        TabletCells y = Edge.plain();
        for (int call = 1; call <= 512; call++) {
            Check.is("tick(5000), call " + call, y.tick(5000), 5000 * call);
        }
    }

    private static void tooOldAtTheClock() {
        Check.sentence(8, "the age of its family is 0 or its time plus that age is greater than the CLOCK (0 at first)");
        int[] ages = {1, 2, 5000, 9998, 9999};
        for (int age : ages) {
            for (int time : Edge.TIMES) {
                for (int column = 3; column <= 4; column++) {
                    TabletCells x = column == 3 ? new TabletCells(0, age, 0, 0) : new TabletCells(0, 0, 0, age);
                    Edge.put(x, 1, column, time, 9);
                    tooOldAt(x, column, time, age);
                }
            }
        }
    }

    private static void tooOldAt(TabletCells x, int column, int time, int age) {
        String cell = "a cell of time " + time + " and age " + age;
        Edge.tickTo(x, time + age - 1);
        Check.is(cell + ", clock one less", x.get(1, column, 9999, 0), Check.cell(time, 9));
        x.tick(0);
        Check.is(cell + ", tick(0)", x.get(1, column, 9999, 0), Check.cell(time, 9));
        x.tick(1);
        Check.is(cell + ", clock the same", x.get(1, column, 9999, 0), TabletCells.BAD);
        x.tick(-1);
        Check.is(cell + ", tick(-1)", x.get(1, column, 9999, 0), TabletCells.BAD);
        Edge.put(x, 1, column, time, 8);
        Check.is(cell + ", put again", x.get(1, column, 9999, 0), TabletCells.BAD);
        x.tick(1);
        Check.is(cell + ", clock one more", x.get(1, column, 9999, 0), TabletCells.BAD);
        Check.is(cell + ", its entries are there", x.tablet(0, 3), 2);
    }
}
