/** Each sentence of promises 15, 16 and 17 that names a boundary case: on the boundary, and one step to each side. */
public final class TabletEdgeTest {
    public static void main(String[] args) {
        splitRow();
        splitRowOfSmallTablets();
        splitNoSuchTablet();
        splitAtEight();
        splitParts();
        splitEmptyTables();
        splitTableOrder();
        entriesByTheirRow();
        joinNotTheseTwo();
        joinRanges();
        joinMemtables();
        joinTables();
        tabletNone();
        tabletWhat();
        Check.end();
    }

    private static void range(String when, TabletCells x, int t, int first, int last) {
        Check.is(when + ": first row of " + t, x.tablet(t, 0), first);
        Check.is(when + ": last row of " + t, x.tablet(t, 1), last);
    }

    private static void splitRow() {
        Check.sentence(15, "row is not greater than its first row or is greater than its last");
        int[] rows = {Edge.LEAST, -2, -1, 0, 1, 2, 19, 20, 21, 22, 38, 39, 40, 41, 42, 61, 62, 63, 64, 65, Edge.GREATEST};
        int[] firsts = {0, 20, 40, 64};
        for (int row : rows) {
            TabletCells whole = Edge.plain();
            Check.is("split(0, " + row + ") of 0 .. 63", whole.split(0, row), row > 0 && row <= 63);
            for (int t = 0; t < 3; t++) {
                TabletCells x = Edge.plain();
                x.split(0, 20);
                x.split(1, 40);
                boolean isSplit = row > firsts[t] && row < firsts[t + 1];
                Check.is("split(" + t + ", " + row + ") of three", x.split(t, row), isSplit);
                Check.is("tablets then", Edge.tablets(x), isSplit ? 4 : 3);
                range("the tablet", x, t, firsts[t], isSplit ? row - 1 : firsts[t + 1] - 1);
                if (isSplit) {
                    range("the one behind", x, t + 1, row, firsts[t + 1] - 1);
                }
                range("the last", x, isSplit ? 3 : 2, isSplit && t == 2 ? row : 40, 63);
            }
        }
    }

    private static void splitRowOfSmallTablets() {
        Check.sentence(15, "row is not greater than its first row or is greater than its last");
        for (int size = 1; size <= 3; size++) {
            for (int row = 29; row <= 34; row++) {
                TabletCells x = Edge.plain();
                x.split(0, 30);
                x.split(1, 30 + size);
                Check.is("split(1, " + row + ") of " + size + " rows from 30", x.split(1, row), row > 30 && row < 30 + size);
            }
        }
        TabletCells y = Edge.plain();
        Check.is("the first row alone", y.split(0, 1), true);
        Check.is("the last row alone", y.split(1, 63), true);
        Check.is("of the first row alone", y.split(0, 1), false);
        Check.is("of the first row alone, at 0", y.split(0, 0), false);
        Check.is("of the last row alone", y.split(2, 63), false);
        Check.is("of the last row alone, at 64", y.split(2, 64), false);
        range("three", y, 1, 1, 62);
    }

    private static void splitNoSuchTablet() {
        Check.sentence(15, "False when there is no such tablet");
        for (int tablets = 1; tablets <= 7; tablets++) {
            for (int t = -2; t <= 9; t++) {
                TabletCells x = Edge.plain();
                Edge.splitInto(x, tablets);
                boolean isThere = t >= 0 && t < tablets;
                Check.is("split(" + t + ") of " + tablets, x.split(t, 8 * t + 1), isThere);
                Check.is("tablets then", Edge.tablets(x), isThere ? tablets + 1 : tablets);
            }
            TabletCells y = Edge.plain();
            Edge.splitInto(y, tablets);
            Check.is("split(least)", y.split(Edge.LEAST, 5), false);
            Check.is("split(greatest)", y.split(Edge.GREATEST, 5), false);
        }
    }

    private static void splitAtEight() {
        Check.sentence(15, "or there are 8");
        for (int t = 0; t < 8; t++) {
            TabletCells x = Edge.plain();
            Edge.splitInto(x, 7);
            Check.is("seven", Edge.tablets(x), 7);
            Check.is("of seven", x.split(6, 56), true);
            Check.is("eight", Edge.tablets(x), 8);
            Check.is("of eight", x.split(t, 8 * t + 4), false);
            Check.is("eight still", Edge.tablets(x), 8);
            range("eight", x, t, 8 * t, 8 * t + 7);
            Check.is("seven again", x.join(t == 7 ? 6 : t), true);
            Check.is("of seven again", x.split(t == 7 ? 6 : t, t == 7 ? 60 : 8 * t + 4), true);
            Check.is("of eight again", x.split(t == 0 ? 2 : 0, t == 0 ? 17 : 1), false);
        }
    }

    /** Cells in the rows on both sides of the split, in a table and in the memtable. */
    private static void splitParts() {
        Check.sentence(15, "its rows less than row stay, with their entries; the others are a tablet behind it, which has their entries");
        for (int row = 30; row <= 34; row++) {
            TabletCells x = Edge.plain();
            for (int r = 31; r <= 33; r++) {
                Edge.put(x, r, 0, 0, r);
            }
            x.flush(0);
            for (int r = 31; r <= 33; r++) {
                Edge.erase(x, r, 0, 1);
            }
            int stay = Math.max(0, row - 31);
            stay = Math.min(3, stay);
            Check.is("split", x.split(0, row), true);
            part(x, 0, stay, 31);
            part(x, 1, 3 - stay, Math.max(31, row));
            range("the first", x, 0, 0, row - 1);
            range("the second", x, 1, row, 63);
            Check.is("cells", x.scan(0, 63, -1, 0, 9999), 3);
            Check.is("log", x.log(), 3);
            Check.is("a flush of the first", x.flush(0), stay);
            Check.is("the memtable of the second", x.tablet(1, 3), 3 - stay);
        }
    }

    private static void part(TabletCells x, int t, int rows, int first) {
        Check.is("memtable of " + t, x.tablet(t, 3), rows);
        Check.is("tables of " + t, x.tablet(t, 2), rows == 0 ? 0 : 1);
        Check.is("entries of its table", x.table(t, 0, 0), rows == 0 ? TabletCells.BAD : rows);
        Check.is("first row of its table", x.table(t, 0, 3), rows == 0 ? TabletCells.BAD : first);
    }

    /** Three tables, each with a cell on one side, on the other, or on both: all 27 ways. */
    private static void splitEmptyTables() {
        Check.sentence(15, "in a memtable and tables in the same order (tables without entries are none)");
        for (int way = 0; way < 27; way++) {
            TabletCells x = Edge.plain();
            int[] sides = {way % 3, way / 3 % 3, way / 9};
            for (int k = 0; k < 3; k++) {
                if (sides[k] != 1) {
                    Edge.put(x, 10 + k, 0, 0, k);
                }
                if (sides[k] != 0) {
                    Edge.put(x, 52 - k, 0, 0, k);
                }
                x.flush(0);
            }
            x.split(0, 32);
            int[] tables = {0, 0};
            for (int k = 0; k < 3; k++) {
                for (int t = 0; t < 2; t++) {
                    if (sides[k] != 1 - t) {
                        Check.is("way " + way + ", table " + tables[t] + " of " + t, x.table(t, tables[t], 3), t == 0 ? 10 + k : 52 - k);
                        tables[t]++;
                    }
                }
            }
            Check.is("way " + way + ", tables of the first", x.tablet(0, 2), tables[0]);
            Check.is("way " + way + ", tables of the second", x.tablet(1, 2), tables[1]);
            Check.is("way " + way + ", behind the last", x.table(0, tables[0], 0), TabletCells.BAD);
            Check.is("way " + way + ", behind the last", x.table(1, tables[1], 0), TabletCells.BAD);
        }
    }

    private static void splitTableOrder() {
        Check.sentence(15, "in a memtable and tables in the same order (tables without entries are none)");
        TabletCells x = Edge.plain();
        for (int i = 0; i < 4; i++) {
            Edge.put(x, i % 2 == 0 ? 20 : 40, 0, 0, i);
            x.flush(0);
        }
        Edge.put(x, 1, 0, 0, 0);
        x.split(0, 32);
        Check.is("two of the first are one", x.compact(0, 2), 1);
        Check.is("the later one is left", x.get(20, 0, 0, 0), 2);
        Check.is("the second has two", x.tablet(1, 2), 2);
        Check.is("two of the second are one", x.compact(1, 2), 1);
        Check.is("the later one is left", x.get(40, 0, 0, 0), 3);
        Check.is("no third", x.compact(1, 2), TabletCells.BAD);
        Check.is("an empty memtable", x.tablet(1, 3), 0);
    }

    private static void entriesByTheirRow() {
        Check.sentence(15, "New entries come into the memtable of the tablet whose range has the row.");
        for (int row = 0; row < 64; row++) {
            TabletCells x = Edge.plain();
            Edge.splitInto(x, 8);
            Edge.put(x, row, 0, 0, 0);
            for (int t = 0; t < 8; t++) {
                Check.is("row " + row + ", tablet " + t, x.tablet(t, 3), t == row / 8 ? 1 : 0);
            }
        }
    }

    private static void joinNotTheseTwo() {
        Check.sentence(16, "False when there are not these two.");
        for (int tablets = 1; tablets <= 8; tablets++) {
            for (int t = -2; t <= 9; t++) {
                TabletCells x = Edge.plain();
                Edge.splitInto(x, tablets);
                boolean isJoined = t >= 0 && t + 1 < tablets;
                Check.is("join(" + t + ") of " + tablets, x.join(t), isJoined);
                Check.is("tablets then", Edge.tablets(x), isJoined ? tablets - 1 : tablets);
                range("the last", x, (isJoined ? tablets - 1 : tablets) - 1, isJoined && t + 2 == tablets ? 8 * t : 8 * (tablets - 1), 63);
            }
            TabletCells y = Edge.plain();
            Edge.splitInto(y, tablets);
            Check.is("join(least)", y.join(Edge.LEAST), false);
            Check.is("join(greatest)", y.join(Edge.GREATEST), false);
            Check.is("join(greatest - 1)", y.join(Edge.GREATEST - 1), false);
        }
    }

    private static void joinRanges() {
        Check.sentence(16, "Tablet t and the one behind it become one");
        for (int t = 0; t < 7; t++) {
            TabletCells x = Edge.plain();
            Edge.splitInto(x, 8);
            for (int i = 0; i < 8; i++) {
                Edge.put(x, 8 * i, 0, 0, i);
                Edge.put(x, 8 * i + 7, 0, 0, i);
            }
            x.join(t);
            for (int i = 0; i < 7; i++) {
                int first = i <= t ? 8 * i : 8 * (i + 1);
                range("join(" + t + ")", x, i, first, first + (i == t ? 15 : 7));
                Check.is("join(" + t + "), memtable of " + i, x.tablet(i, 3), i == t ? 4 : 2);
            }
            Check.is("no eighth", x.tablet(7, 0), TabletCells.BAD);
        }
    }

    private static void joinMemtables() {
        Check.sentence(16, "all entries of both memtables in one");
        int[] sizes = {0, 1, 7, 8, 9, 15};
        for (int first : sizes) {
            for (int second : sizes) {
                TabletCells x = Edge.plain();
                x.split(0, 32);
                Edge.putCells(x, 31, 0, first);
                Edge.putCells(x, 32, 0, second);
                Check.is("join", x.join(0), true);
                Check.is("memtable of " + first + " and " + second, x.tablet(0, 3), first + second);
                Check.is("tables", x.tablet(0, 2), 0);
                Check.is("log", x.log(), first + second);
                Check.is("cells", x.scan(0, 63, -1, 0, 9999), first + second);
                Check.is("flush", x.flush(0), first + second);
            }
        }
    }

    private static void joinTables() {
        Check.sentence(16, "the tables of the first ahead of those of the second");
        for (int first = 0; first <= 3; first++) {
            for (int second = 0; second <= 3; second++) {
                TabletCells x = Edge.plain();
                x.split(0, 32);
                x.split(1, 48);
                Edge.put(x, 50, 0, 0, 0);
                x.flush(2);
                for (int i = 0; i < Math.max(first, second); i++) {
                    if (i < second) {
                        Edge.put(x, 40 - i, 0, 0, 0);
                        x.flush(1);
                    }
                    if (i < first) {
                        Edge.put(x, 30 - i, 0, 0, 0);
                        x.flush(0);
                    }
                }
                x.join(0);
                String when = first + " and " + second + " tables";
                Check.is(when, x.tablet(0, 2), first + second);
                for (int k = 0; k < first + second; k++) {
                    Check.is(when + ", table " + k, x.table(0, k, 3), k < first ? 30 - k : 40 - (k - first));
                }
                Check.is(when + ", behind the last", x.table(0, first + second, 0), TabletCells.BAD);
                Check.is(when + ", the third tablet", x.table(1, 0, 3), 50);
            }
        }
    }

    private static void tabletNone() {
        Check.sentence(17, "BAD when there is none");
        for (int tablets = 1; tablets <= 8; tablets++) {
            TabletCells x = Edge.plain();
            Edge.splitInto(x, tablets);
            for (int t = -2; t <= 9; t++) {
                boolean isThere = t >= 0 && t < tablets;
                Check.is("tablet(" + t + ", 0) of " + tablets, x.tablet(t, 0), isThere ? 8 * t : TabletCells.BAD);
                Check.is("tablet(" + t + ", 1)", x.tablet(t, 1), isThere ? t == tablets - 1 ? 63 : 8 * t + 7 : TabletCells.BAD);
                Check.is("tablet(" + t + ", 2)", x.tablet(t, 2), isThere ? 0 : TabletCells.BAD);
                Check.is("tablet(" + t + ", 3)", x.tablet(t, 3), isThere ? 0 : TabletCells.BAD);
            }
            Check.is("tablet(least, 0)", x.tablet(Edge.LEAST, 0), TabletCells.BAD);
            Check.is("tablet(greatest, 0)", x.tablet(Edge.GREATEST, 0), TabletCells.BAD);
        }
    }

    private static void tabletWhat() {
        Check.sentence(17, "or what is not 0 .. 3");
        TabletCells x = Edge.plain();
        Edge.splitInto(x, 3);
        for (int i = 0; i < 2; i++) {
            Edge.put(x, 8, 0, 0, 0);
            x.flush(1);
        }
        Edge.putCells(x, 15, 0, 5);
        int[] what = {Edge.LEAST, -2, -1, 0, 1, 2, 3, 4, 5, Edge.GREATEST};
        int[] due = {TabletCells.BAD, TabletCells.BAD, TabletCells.BAD, 8, 15, 2, 5, TabletCells.BAD, TabletCells.BAD, TabletCells.BAD};
        for (int i = 0; i < what.length; i++) {
            Check.is("what " + what[i], x.tablet(1, what[i]), due[i]);
            Check.is("what " + what[i] + " of none", x.tablet(3, what[i]), TabletCells.BAD);
        }
    }
}
