/** Each sentence of promises 12, 13, 14, 18 and 19 that names a boundary case: on the boundary, and one step to each side. */
public final class TableEdgeTest {
    public static void main(String[] args) {
        flushEntries();
        flushNoSuchTablet();
        compactK();
        compactNoSuchTablet();
        compactPlace();
        compactCoveredInThese();
        compactCoveredInOne();
        compactOneTabletAlone();
        compactTooOld();
        compactTooOldCovers();
        compactNoneLeft();
        coveredForGood();
        tooOldForGood();
        majorFlushes();
        majorLiveAlone();
        majorNoneLeft();
        majorAtTheClock();
        majorNoSuchTablet();
        tableEntries();
        tableErasures();
        tableBlocks();
        tableBlocksOfMany();
        tableFirstRow();
        tableRowsAscend();
        tableNone();
        tableWhat();
        logBatches();
        logUntilFlushed();
        logOfTablets();
        logBehindEntriesThatLeft();
        logOfWhatIsNotApplied();
        Check.end();
    }

    private static void flushEntries() {
        Check.sentence(12, "Flushes a tablet: the number of entries of the new table, 0 if there is none.");
        for (int entries = 0; entries <= 15; entries++) {
            TabletCells x = Edge.plain();
            Edge.putCells(x, 5, 0, entries);
            Check.is("flush of " + entries, x.flush(0), entries);
            Check.is("tables", x.tablet(0, 2), entries == 0 ? 0 : 1);
            Check.is("memtable", x.tablet(0, 3), 0);
            Check.is("entries of the table", x.table(0, 0, 0), entries == 0 ? TabletCells.BAD : entries);
            Check.is("flush again", x.flush(0), 0);
            Check.is("tables then", x.tablet(0, 2), entries == 0 ? 0 : 1);
            Edge.erase(x, 4, -1, -1);
            Check.is("flush of an erasure", x.flush(0), 1);
            Check.is("behind the others", x.table(0, entries == 0 ? 0 : 1, 3), 4);
        }
        TabletCells y = Edge.plain();
        Edge.putCells(y, 5, 0, 16);
        Check.is("flush of 16, which are flushed already", y.flush(0), 0);
        TabletCells z = Edge.plain();
        z.put(5, 0, 0, 0);
        Check.is("flush of a batch that is not applied", z.flush(0), 0);
    }

    private static void flushNoSuchTablet() {
        Check.sentence(12, "BAD when there is no such tablet.");
        for (int tablets = 1; tablets <= 8; tablets++) {
            TabletCells x = Edge.plain();
            Edge.splitInto(x, tablets);
            for (int t = 0; t < tablets; t++) {
                Edge.putCells(x, 8 * t, 0, t + 1);
            }
            for (int t = -2; t <= 9; t++) {
                Check.is("flush(" + t + ") of " + tablets, x.flush(t), t >= 0 && t < tablets ? t + 1 : TabletCells.BAD);
            }
            Check.is("flush(least)", x.flush(Edge.LEAST), TabletCells.BAD);
            Check.is("flush(greatest)", x.flush(Edge.GREATEST), TabletCells.BAD);
        }
    }

    /** So many tables, of one cell each, in rows 10, 11 .. */
    private static TabletCells ofTables(int tables) {
        TabletCells x = Edge.plain();
        for (int i = 0; i < tables; i++) {
            Edge.addTable(x, 10 + i, 0, 1);
        }
        return x;
    }

    private static void compactK() {
        Check.sentence(13, "k is less than 2 or it has not so many");
        for (int tables = 0; tables <= 5; tables++) {
            for (int k = -2; k <= 7; k++) {
                TabletCells x = ofTables(tables);
                Edge.put(x, 1, 0, 0, 0);
                boolean isTaken = k >= 2 && k <= tables;
                String call = "compact(0, " + k + ") of " + tables + " tables";
                Check.is(call, x.compact(0, k), isTaken ? k : TabletCells.BAD);
                Check.is(call + ", tables then", x.tablet(0, 2), isTaken ? tables - k + 1 : tables);
                Check.is(call + ", the memtable is no table", x.tablet(0, 3), 1);
                Check.is(call + ", cells", x.scan(0, 63, -1, 0, 9999), tables + 1);
            }
            TabletCells y = ofTables(tables);
            Check.is("k least", y.compact(0, Edge.LEAST), TabletCells.BAD);
            Check.is("k greatest", y.compact(0, Edge.GREATEST), TabletCells.BAD);
        }
    }

    private static void compactNoSuchTablet() {
        Check.sentence(13, "BAD when there is no such tablet");
        for (int tablets = 1; tablets <= 8; tablets++) {
            TabletCells x = Edge.plain();
            Edge.splitInto(x, tablets);
            for (int t = 0; t < tablets; t++) {
                for (int i = 0; i < 2; i++) {
                    Edge.putCells(x, 8 * t + i, 0, t + 1);
                    x.flush(t);
                }
            }
            for (int t = -2; t <= 9; t++) {
                boolean isThere = t >= 0 && t < tablets;
                Check.is("compact(" + t + ", 2) of " + tablets, x.compact(t, 2), isThere ? 2 * t + 2 : TabletCells.BAD);
                Check.is("tables of " + t, x.tablet(t, 2), isThere ? 1 : TabletCells.BAD);
                Check.is("tables of the next one", x.tablet(t + 1, 2), t + 1 >= 0 && t + 1 < tablets ? 2 : TabletCells.BAD);
            }
            Check.is("compact(least)", x.compact(Edge.LEAST, 2), TabletCells.BAD);
            Check.is("compact(greatest)", x.compact(Edge.GREATEST, 2), TabletCells.BAD);
        }
    }

    private static void compactPlace() {
        Check.sentence(13, "they become one table at the place of the first of them");
        for (int k = 2; k <= 5; k++) {
            TabletCells x = ofTables(5);
            x.compact(0, k);
            for (int i = 0; i < 5 - k; i++) {
                Check.is("table " + i + " is as it was", x.table(0, i, 3) * 100 + x.table(0, i, 0), (10 + i) * 100 + 1);
            }
            Check.is("the new one is at the place of the first", x.table(0, 5 - k, 3), 15 - k);
            Check.is("and has the entries of all", x.table(0, 5 - k, 0), k);
            Check.is("behind it is none", x.table(0, 6 - k, 0), TabletCells.BAD);
            Edge.addTable(x, 3, 0, 1);
            Check.is("the next one is behind it", x.table(0, 6 - k, 3), 3);
        }
    }

    /** Four tables, each with the same cell, and a fifth time in the memtable. */
    private static void compactCoveredInThese() {
        Check.sentence(13, "of those of their entries that no entry in these tables covers");
        for (int k = 2; k <= 4; k++) {
            TabletCells x = Edge.plain();
            for (int i = 0; i < 4; i++) {
                Edge.put(x, 5, 0, 0, i);
                Edge.put(x, 20 + i, 0, 0, 0);
                x.flush(0);
            }
            Edge.put(x, 5, 0, 0, 4);
            Check.is("one of the same cell, and all others, k " + k, x.compact(0, k), k + 1);
            for (int i = 0; i < 4 - k; i++) {
                Check.is("what they cover in tables ahead stays", x.table(0, i, 0), 2);
            }
            Check.is("what the memtable covers stays", x.table(0, 4 - k, 3), 5);
            Check.is("the latest value", x.get(5, 0, 0, 0), 4);
            Check.is("no other", x.get(5, 0, 0, 1), TabletCells.BAD);
        }
    }

    /** Two entries of one table, the second of which covers the first, in each of three tables that become one. */
    private static void compactCoveredInOne() {
        Check.sentence(13, "of those of their entries that no entry in these tables covers");
        for (int k = 2; k <= 3; k++) {
            for (int where = 0; where < 3; where++) {
                TabletCells x = Edge.plain();
                for (int i = 0; i < 3; i++) {
                    Edge.put(x, 10 + i, 0, 0, 0);
                    if (i == where) {
                        Edge.put(x, 10 + i, 0, 0, 1);
                    }
                    x.flush(0);
                }
                boolean isInThese = where >= 3 - k;
                Check.is("left of " + k + ", covered in table " + where, x.compact(0, k), k);
                Check.is("entries in all", Edge.entries(x), isInThese ? 3 : 4);
                Check.is("the later value", x.get(10 + where, 0, 0, 0), 1);
            }
        }
    }

    /** Entries left the first tablet once; those that came into the others since must not go with the next that leave. */
    private static void compactOneTabletAlone() {
        Check.sentence(13, "Compacts the k latest tables of a tablet: how many entries are left of them.");
        for (int isMajor = 0; isMajor <= 1; isMajor++) {
            TabletCells x = Edge.plain();
            Edge.splitInto(x, 3);
            for (int turn = 0; turn < 3; turn++) {
                for (int i = 0; i < 2; i++) {
                    Edge.put(x, 9, 0, 0, i);
                    x.flush(1);
                }
                Check.is("left of the middle one", isMajor == 1 ? x.major(1) : x.compact(1, 2), 1);
                Edge.put(x, 7, 0, turn, 0);
                Edge.put(x, 16, 0, turn, 0);
                Check.is("memtable of the first", x.tablet(0, 3), turn + 1);
                Check.is("memtable of the last", x.tablet(2, 3), turn + 1);
                Check.is("cells", x.scan(0, 63, -1, 0, 9999), 2 * turn + 3);
            }
        }
    }

    private static void compactTooOld() {
        Check.sentence(13, "but for cells that are too old");
        for (int clock = 16; clock <= 18; clock++) {
            for (int column = 3; column <= 4; column++) {
                TabletCells x = column == 3 ? new TabletCells(0, 10, 0, 0) : new TabletCells(0, 0, 0, 10);
                Edge.put(x, 1, column, 7, 1);
                x.flush(0);
                Edge.put(x, 2, column, 6, 1);
                Edge.put(x, 3, column, 8, 1);
                Edge.put(x, 4, 7 - column, 0, 1);
                Edge.erase(x, 5, column, 0);
                x.flush(0);
                x.tick(clock);
                int old = clock - 15;
                Check.is("times 6, 7 and 8 of age 10 at " + clock, x.compact(0, 2), 5 - old);
                Check.is("the other family and the erasure stay", x.table(0, 0, 0), 5 - old);
                Check.is("the erasure", x.table(0, 0, 1), 1);
            }
        }
    }

    /** A cell that is too old leaves, but what it covers leaves too. */
    private static void compactTooOldCovers() {
        Check.sentence(13, "of those of their entries that no entry in these tables covers, but for cells that are too old");
        for (int clock = 9; clock <= 11; clock++) {
            TabletCells x = new TabletCells(0, 10, 0, 0);
            Edge.erase(x, 1, 0, 0);
            x.flush(0);
            Edge.put(x, 1, 0, 0, 1);
            x.flush(0);
            x.tick(clock);
            Check.is("an erasure under a cell of age 10 at " + clock, x.compact(0, 2), clock < 10 ? 1 : 0);
            Check.is("erasures", x.table(0, 0, 1), clock < 10 ? 0 : TabletCells.BAD);
        }
    }

    /** The two latest tables hold two cells, of the times 0 and 1, that will be too old at 10 and at 11. */
    private static void compactNoneLeft() {
        Check.sentence(13, "(When none are left, there is no such table.)");
        for (int clock = 9; clock <= 11; clock++) {
            for (int ahead = 0; ahead <= 2; ahead++) {
                TabletCells x = new TabletCells(0, 10, 0, 0);
                for (int i = 0; i < ahead; i++) {
                    Edge.put(x, 40 + i, 7, 0, 0);
                    x.flush(0);
                }
                Edge.put(x, 1, 0, 0, 0);
                x.flush(0);
                Edge.put(x, 2, 0, 1, 0);
                x.flush(0);
                x.tick(clock);
                int left = 11 - clock;
                Check.is("left at " + clock, x.compact(0, 2), left);
                Check.is("tables, " + ahead + " ahead, " + left + " left", x.tablet(0, 2), ahead + (left == 0 ? 0 : 1));
                Check.is("entries of such a table", x.table(0, ahead, 0), left == 0 ? TabletCells.BAD : left);
                Edge.put(x, 3, 7, 0, 0);
                x.flush(0);
                Check.is("the next table is behind", x.table(0, ahead + (left == 0 ? 0 : 1), 3), 3);
                Check.is("cells", x.scan(0, 63, -1, 0, 9999), ahead + left + 1);
            }
        }
    }

    /** A cell in the first table, covered by each kind in the second, which leaves when the third covers that. */
    private static void coveredForGood() {
        Check.sentence(13, "What was covered or too old once is so for good, though its entry may still be there.");
        int[][] kinds = {{5, 3, 7}, {5, 3, -1}, {5, -1, -1}};
        for (int second = -1; second < 3; second++) {
            for (int third = Math.max(0, second); third < 3; third++) {
                TabletCells x = Edge.plain();
                Edge.put(x, 5, 3, 7, 1);
                x.flush(0);
                if (second < 0) {
                    Edge.put(x, 5, 3, 7, 2);
                } else {
                    Edge.erase(x, 5, kinds[second][1], kinds[second][2]);
                }
                x.flush(0);
                Edge.erase(x, 5, kinds[third][1], kinds[third][2]);
                x.flush(0);
                Check.is("the second leaves", x.compact(0, 2), 1);
                Check.is("the first entry is there", x.table(0, 0, 0), 1);
                Check.is("and is not live", x.scan(0, 63, -1, 0, 9999), 0);
                Check.is("none is left by a major compaction", x.major(0), 0);
            }
        }
    }

    private static void tooOldForGood() {
        Check.sentence(13, "What was covered or too old once is so for good, though its entry may still be there.");
        for (int clock = 16; clock <= 18; clock++) {
            TabletCells x = new TabletCells(0, 10, 0, 0);
            for (int i = 0; i < 3; i++) {
                Edge.put(x, 5, 3, 7, i);
                x.flush(0);
            }
            x.tick(clock);
            int live = clock < 17 ? 1 : 0;
            Check.is("of the two later ones", x.compact(0, 2), live);
            Check.is("the first entry is there", x.table(0, 0, 0), 1);
            Check.is("live at " + clock, x.scan(0, 63, -1, 0, 9999), live);
            x.tick(-1);
            x.crash();
            Check.is("live still", x.scan(0, 63, -1, 0, 9999), live);
            Check.is("left by a major compaction", x.major(0), live);
        }
    }

    private static void majorFlushes() {
        Check.sentence(14, "it is flushed; then all its tables become one");
        for (int tables = 0; tables <= 3; tables++) {
            for (int entries = 0; entries <= 2; entries++) {
                TabletCells x = ofTables(tables);
                Edge.putCells(x, 1, 0, entries);
                int left = tables + entries;
                Check.is(tables + " tables and " + entries + " entries", x.major(0), left);
                Check.is("tables", x.tablet(0, 2), left == 0 ? 0 : 1);
                Check.is("memtable", x.tablet(0, 3), 0);
                Check.is("log", x.log(), 0);
                Check.is("entries", x.table(0, 0, 0), left == 0 ? TabletCells.BAD : left);
                Check.is("again", x.major(0), left);
                Check.is("tables still", x.tablet(0, 2), left == 0 ? 0 : 1);
            }
        }
    }

    private static void majorLiveAlone() {
        Check.sentence(14, "of the live cells alone");
        for (int n = 1; n <= 5; n++) {
            TabletCells x = new TabletCells(n, 0, 0, 0);
            Edge.putCells(x, 1, 0, 6);
            Edge.put(x, 1, 0, 5, 9);
            Edge.erase(x, 2, -1, -1);
            Edge.erase(x, 2, 0, -1);
            Edge.erase(x, 2, 0, 0);
            Edge.put(x, 2, 0, 0, 8);
            Check.is("number " + n, x.major(0), n + 1);
            Check.is("erasures", x.table(0, 0, 1), 0);
            Check.is("cells", x.scan(0, 63, -1, 0, 9999), n + 1);
            Check.is("the latest of its time", x.found(0), Check.cell(1, 0, 5, 9));
            Check.is("behind erasures", x.found(n), Check.cell(2, 0, 0, 8));
        }
    }

    private static void majorNoneLeft() {
        Check.sentence(14, "(or none, if there are none)");
        for (int left = 0; left <= 1; left++) {
            for (int isFlushed = 0; isFlushed <= 1; isFlushed++) {
                TabletCells x = Edge.plain();
                Edge.put(x, 1, 0, 0, 1);
                Edge.put(x, 2, 0, 0, 2);
                if (isFlushed == 1) {
                    x.flush(0);
                }
                Edge.erase(x, 1, -1, -1);
                Edge.erase(x, 2, 0, left == 0 ? 0 : 1);
                Check.is("left", x.major(0), left);
                Check.is("tables", x.tablet(0, 2), left);
                Check.is("the first one", x.table(0, 0, 0), left == 0 ? TabletCells.BAD : 1);
                Check.is("entries in all", Edge.entries(x), left);
            }
        }
    }

    private static void majorAtTheClock() {
        Check.sentence(14, "of the live cells alone");
        for (int clock = 9; clock <= 12; clock++) {
            TabletCells x = new TabletCells(0, 10, 0, 0);
            Edge.putCells(x, 1, 3, 2);
            Edge.putCells(x, 1, 4, 1);
            x.tick(clock);
            int left = clock < 10 ? 3 : clock < 11 ? 2 : 1;
            Check.is("times 0 and 1 of age 10 at " + clock, x.major(0), left);
            Check.is("tables", x.tablet(0, 2), 1);
            Check.is("entries", x.table(0, 0, 0), left);
        }
    }

    private static void majorNoSuchTablet() {
        Check.sentence(14, "BAD when there is no such tablet.");
        for (int tablets = 1; tablets <= 8; tablets++) {
            TabletCells x = Edge.plain();
            Edge.splitInto(x, tablets);
            for (int t = 0; t < tablets; t++) {
                Edge.putCells(x, 8 * t, 0, t + 1);
            }
            for (int t = -2; t <= 9; t++) {
                Check.is("major(" + t + ") of " + tablets, x.major(t), t >= 0 && t < tablets ? t + 1 : TabletCells.BAD);
                Check.is("the next one keeps its memtable", x.tablet(t + 1, 3), t + 1 >= 0 && t + 1 < tablets ? t + 2 : TabletCells.BAD);
            }
            Check.is("major(least)", x.major(Edge.LEAST), TabletCells.BAD);
            Check.is("major(greatest)", x.major(Edge.GREATEST), TabletCells.BAD);
        }
    }

    private static void tableEntries() {
        Check.sentence(18, "what = 0 how many entries");
        for (int entries = 1; entries <= 15; entries++) {
            TabletCells x = Edge.plain();
            Edge.addTable(x, 5, 0, entries);
            Check.is("table of " + entries, x.table(0, 0, 0), entries);
            for (int i = 0; i < entries; i++) {
                Edge.put(x, 5, 0, 0, i);
            }
            x.flush(0);
            Check.is("table of " + entries + ", all but one covered", x.table(0, 1, 0), entries);
            Check.is("the first one, one covered", x.table(0, 0, 0), entries);
        }
    }

    private static void tableErasures() {
        Check.sentence(18, "1 how many of them are erasures");
        int[][] kinds = {{-1, -1}, {0, -1}, {7, -1}, {0, 0}, {7, 9999}};
        for (int erasures = 0; erasures <= 5; erasures++) {
            for (int cells = 0; cells <= 2; cells++) {
                TabletCells x = Edge.plain();
                Edge.putCells(x, 5, 0, cells);
                for (int i = 0; i < erasures; i++) {
                    Edge.erase(x, 5, kinds[i][0], kinds[i][1]);
                }
                x.flush(0);
                boolean isThere = erasures + cells > 0;
                Check.is("erasures of " + erasures + " and " + cells + " cells", x.table(0, 0, 1), isThere ? erasures : TabletCells.BAD);
            }
        }
        TabletCells y = new TabletCells(1, 0, 0, 0);
        Edge.addTable(y, 5, 0, 4);
        Check.is("those that number n asks for", y.table(0, 0, 1), 3);
    }

    private static void tableBlocks() {
        Check.sentence(18, "A BLOCK is four of them that follow one another, from the first one on (the last block may have fewer).");
        int[] blocks = {0, 1, 1, 1, 1, 2, 2, 2, 2, 3, 3, 3, 3, 4, 4, 4, 4, 5, 5, 5};
        for (int entries = 1; entries <= 19; entries++) {
            TabletCells x = Edge.plain();
            int alone = Math.min(entries, 15);
            Edge.putCells(x, 5, 0, alone);
            for (int i = 0; i < entries - alone; i++) {
                x.put(6, 0, i, i);
            }
            x.apply();
            x.flush(0);
            Check.is("entries", x.table(0, 0, 0), entries);
            Check.is("blocks of " + entries, x.table(0, 0, 2), blocks[entries]);
        }
        for (int first = 1; first <= 5; first++) {
            for (int second = 1; second <= 5; second++) {
                TabletCells x = Edge.plain();
                Edge.addTable(x, 5, 0, first);
                Edge.addTable(x, 6, 0, second);
                x.compact(0, 2);
                Check.is("blocks of " + first + " and " + second + " in one", x.table(0, 0, 2), blocks[first + second]);
                x.split(0, 6);
                Check.is("blocks of " + first + ", parted", x.table(0, 0, 2), blocks[first]);
                Check.is("blocks of " + second + ", parted", x.table(1, 0, 2), blocks[second]);
            }
        }
    }

    private static void tableBlocksOfMany() {
        Check.sentence(18, "2 how many blocks");
        TabletCells x = Edge.plain();
        for (int row = 0; row < 60; row++) {
            for (int i = 0; i < (row == 0 ? 3 : 4); i++) {
                x.put(row, 0, i, i);
            }
            x.apply();
        }
        Check.is("239", x.major(0), 239);
        Check.is("blocks of 239", x.table(0, 0, 2), 60);
        x.put(60, 0, 0, 0);
        x.put(60, 0, 1, 0);
        x.apply();
        Check.is("241", x.major(0), 241);
        Check.is("blocks of 241", x.table(0, 0, 2), 61);
        Edge.tickTo(x, 9999);
        Check.is("the first row", x.table(0, 0, 3), 0);
    }

    private static void tableFirstRow() {
        Check.sentence(18, "3 the row of its first entry");
        for (int row = 0; row < 64; row++) {
            TabletCells x = Edge.plain();
            Edge.put(x, 63, 7, 0, 0);
            Edge.put(x, row, 7, 9999, 0);
            Edge.put(x, Math.min(63, row + 1), 0, 0, 0);
            x.flush(0);
            Check.is("of rows " + row + " and more", x.table(0, 0, 3), row);
            Edge.erase(x, row, -1, -1);
            x.flush(0);
            Check.is("of an erasure of row " + row, x.table(0, 1, 3), row);
        }
    }

    /** The last cells of a row, and the erasure of the next row, which is the first of that one: in both orders. */
    private static void tableRowsAscend() {
        Check.sentence(18, "by ascending rows; in a row erasures of the row first");
        for (int time : Edge.TIMES) {
            for (int isFirst = 0; isFirst <= 1; isFirst++) {
                TabletCells x = Edge.plain();
                Edge.putCells(x, 30, 0, 3);
                if (isFirst == 1) {
                    Edge.erase(x, 32, -1, -1);
                }
                Edge.put(x, 31, 7, time, 5);
                if (isFirst == 0) {
                    Edge.erase(x, 32, -1, -1);
                }
                String when = "time " + time + ", erasure first " + isFirst;
                Check.is(when + ", in the memtable", x.get(31, 7, 9999, 0), Check.cell(time, 5));
                x.flush(0);
                x.get(31, 7, 9999, 0);
                Check.is(when + ", row 31 is in the first block", x.looked(), 1);
                Check.is(when + ", and is live", x.scan(31, 31, -1, 0, 9999), 1);
                x.split(0, 31);
                Check.is(when + ", first row of the others", x.table(1, 0, 3), 31);
                x.split(1, 32);
                Check.is(when + ", the next row", x.table(2, 0, 3), 32);
                Check.is(when + ", its erasure", x.table(2, 0, 1), 1);
            }
        }
    }

    private static void tableNone() {
        Check.sentence(18, "BAD when there is none");
        for (int tables = 0; tables <= 3; tables++) {
            TabletCells x = ofTables(tables);
            Edge.put(x, 1, 0, 0, 0);
            for (int k = -2; k <= 4; k++) {
                Check.is("table(0, " + k + ", 3) of " + tables, x.table(0, k, 3), k >= 0 && k < tables ? 10 + k : TabletCells.BAD);
            }
            Check.is("k least", x.table(0, Edge.LEAST, 0), TabletCells.BAD);
            Check.is("k greatest", x.table(0, Edge.GREATEST, 0), TabletCells.BAD);
        }
        for (int tablets = 1; tablets <= 8; tablets++) {
            TabletCells x = Edge.plain();
            Edge.splitInto(x, tablets);
            for (int t = 0; t < tablets; t++) {
                Edge.put(x, 8 * t, 0, 0, 0);
                x.flush(t);
            }
            for (int t = -2; t <= 9; t++) {
                Check.is("table(" + t + ", 0, 3) of " + tablets, x.table(t, 0, 3), t >= 0 && t < tablets ? 8 * t : TabletCells.BAD);
                Check.is("table(" + t + ", 1, 3)", x.table(t, 1, 3), TabletCells.BAD);
            }
            Check.is("t least", x.table(Edge.LEAST, 0, 0), TabletCells.BAD);
            Check.is("t greatest", x.table(Edge.GREATEST, 0, 0), TabletCells.BAD);
        }
    }

    private static void tableWhat() {
        Check.sentence(18, "or what is not 0 .. 3");
        TabletCells x = Edge.plain();
        Edge.addTable(x, 40, 0, 5);
        int[] what = {Edge.LEAST, -2, -1, 0, 1, 2, 3, 4, 5, Edge.GREATEST};
        int[] due = {TabletCells.BAD, TabletCells.BAD, TabletCells.BAD, 5, 0, 2, 40, TabletCells.BAD, TabletCells.BAD, TabletCells.BAD};
        for (int i = 0; i < what.length; i++) {
            Check.is("what " + what[i], x.table(0, 0, what[i]), due[i]);
            Check.is("what " + what[i] + " of none", x.table(0, 1, what[i]), TabletCells.BAD);
            Check.is("what " + what[i] + " of no tablet", x.table(1, 0, what[i]), TabletCells.BAD);
        }
    }

    private static void logBatches() {
        Check.sentence(19, "How many batches are in the log.");
        for (int changes = 1; changes <= 4; changes++) {
            TabletCells x = new TabletCells(1, 0, 0, 0);
            for (int i = 0; i < changes; i++) {
                x.put(5, 0, i, i);
            }
            Check.is("not applied", x.log(), 0);
            x.apply();
            Check.is("one of " + changes + " changes", x.log(), 1);
            Edge.erase(x, 5, -1, -1);
            Check.is("and one that covers all of it", x.log(), 2);
            Check.is("entries", x.tablet(0, 3), 2 * changes);
            x.crash();
            Check.is("a crash", x.log(), 2);
        }
    }

    private static void logUntilFlushed() {
        Check.sentence(19, "An applied batch is in the LOG as long as one of its entries is in a memtable.");
        for (int batches = 0; batches <= 17; batches++) {
            TabletCells x = Edge.plain();
            Edge.putCells(x, 5, 0, batches);
            int left = batches < 16 ? batches : batches - 16;
            Check.is(batches + " batches of one entry", x.log(), left);
            Check.is("flush", x.flush(0), left);
            Check.is("none behind it", x.log(), 0);
            Edge.put(x, 5, 0, 0, 0);
            Check.is("the next one", x.log(), 1);
            Edge.addTable(x, 6, 0, 1);
            x.compact(0, 2);
            Edge.put(x, 5, 0, 0, 0);
            x.compact(0, 2);
            Check.is("to compact takes none", x.log(), 1);
            x.major(0);
            Check.is("a major compaction takes all", x.log(), 0);
        }
    }

    private static void logOfTablets() {
        Check.sentence(19, "An applied batch is in the LOG as long as one of its entries is in a memtable.");
        TabletCells x = Edge.plain();
        for (int row = 30; row <= 33; row++) {
            Edge.put(x, row, 0, 0, 0);
        }
        x.split(0, 32);
        Check.is("split", x.log(), 4);
        x.flush(0);
        Check.is("the first is flushed", x.log(), 2);
        Edge.put(x, 31, 0, 0, 0);
        x.join(0);
        Check.is("joined", x.log(), 3);
        x.split(0, 33);
        x.major(1);
        Check.is("the last row is flushed", x.log(), 2);
        x.flush(0);
        Check.is("all are flushed", x.log(), 0);
    }

    private static void logBehindEntriesThatLeft() {
        Check.sentence(19, "How many batches are in the log.");
        TabletCells x = new TabletCells(1, 0, 0, 0);
        for (int turn = 0; turn < 5; turn++) {
            Edge.putCells(x, 5, 0, 4);
            Check.is("four batches", x.log(), 4);
            Edge.erase(x, 5, -1, -1);
            Check.is("all leave", x.major(0), 0);
            Check.is("none", x.log(), 0);
            for (int i = 0; i < 4; i++) {
                x.put(5, 0, i, i);
            }
            Check.is("seven entries", x.apply(), 7);
            Check.is("of one batch", x.log(), 1);
            x.flush(0);
        }
    }

    private static void logOfWhatIsNotApplied() {
        Check.sentence(19, "How many batches are in the log.");
        TabletCells x = Edge.plain();
        x.expect(0, 0, true, 0);
        Edge.put(x, 0, 0, 0, 0);
        Check.is("not met", x.log(), 0);
        x.tear();
        Edge.put(x, 0, 0, 0, 0);
        Check.is("torn", x.log(), 0);
        x.apply();
        Check.is("no changes", x.log(), 0);
        for (int entries = 239; entries <= 240; entries++) {
            TabletCells y = Edge.ofEntries(entries);
            for (int t = 0; t < 8; t++) {
                y.flush(t);
            }
            Edge.put(y, 1, 0, 0, 0);
            Check.is("with " + entries + " entries", y.log(), entries < 240 ? 1 : 0);
        }
    }
}
