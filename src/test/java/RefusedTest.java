import java.util.ArrayList;
import java.util.LinkedHashMap;
import java.util.List;
import java.util.Map;
import java.util.function.Supplier;
import java.util.function.ToLongFunction;

/**
 * "A call that is refused changes nothing": each call that can be refused, just beyond each of its boundaries, in
 * several states. A second object that was made by the same calls, but for the refused one, must answer all alike.
 */
public final class RefusedTest {
    private static final Map<String, Supplier<TabletCells>> STATES = new LinkedHashMap<>();
    private static final Map<String, ToLongFunction<TabletCells>> ALWAYS = new LinkedHashMap<>();

    public static void main(String[] args) {
        states();
        wrongChanges();
        wrongReads();
        wrongTables();
        wrongTablets();
        inAllStates();
        refusedByTheBatch();
        refusedByTheTables();
        refusedByTheTablets();
        refusedByApply();
        Check.end();
    }

    private static void states() {
        STATES.put("a new object", Edge::plain);
        STATES.put("a busy one", RefusedTest::busy);
        STATES.put("a batch of four", RefusedTest::ofFourChanges);
        STATES.put("an expectation alone, and torn", RefusedTest::tornWithExpectation);
        STATES.put("eight tablets", RefusedTest::eightTablets);
        STATES.put("a full one", RefusedTest::full);
    }

    /** Two tablets with two tables each and memtables, a result, a clock, blocks looked at, and a batch of two. */
    private static TabletCells busy() {
        TabletCells x = new TabletCells(2, 0, 0, 50);
        x.split(0, 32);
        for (int i = 0; i < 3; i++) {
            for (int row : new int[] {5, 31, 32, 40}) {
                x.put(row, 0, 10 + i, i);
                x.put(row, 4, 10 - i, i);
                x.erase(row, 7 - i, i == 1 ? -1 : i);
                x.apply();
            }
            if (i < 2) {
                x.flush(0);
                x.flush(1);
            }
        }
        x.tick(59);
        x.scan(0, 40, -1, 0, 9999);
        x.put(33, 1, 1, 1);
        x.erase(33, 2, 2);
        return x;
    }

    private static TabletCells ofFourChanges() {
        TabletCells x = busy();
        x.put(33, 1, 2, 2);
        x.put(33, 1, 3, 3);
        x.expect(5, 0, true, 2);
        return x;
    }

    private static TabletCells tornWithExpectation() {
        TabletCells x = busy();
        x.crash();
        x.expect(5, 0, true, 9);
        x.tear();
        return x;
    }

    private static TabletCells eightTablets() {
        TabletCells x = Edge.plain();
        Edge.splitInto(x, 8);
        for (int i = 0; i < 20; i++) {
            Edge.put(x, 3 * i, i % 8, i, i);
        }
        x.flush(2);
        x.scan(10, 50, -1, 0, 9999);
        x.put(20, 0, 0, 0);
        return x;
    }

    private static TabletCells full() {
        TabletCells x = Edge.ofEntries(240);
        x.scan(0, 30, -1, 0, 9999);
        x.put(33, 1, 1, 1);
        x.expect(0, 7, false, 0);
        return x;
    }

    /** What an object answers to all that can be asked of it; the batch shows when it is applied, at last. */
    private static List<Long> told(TabletCells x) {
        List<Long> all = new ArrayList<>();
        all.add((long) x.looked());
        all.add((long) x.log());
        all.add((long) x.tick(0));
        for (int k = 0; k == 0 || all.get(all.size() - 1) != TabletCells.BAD; k++) {
            all.add(x.found(k));
        }
        tellTablets(x, all);
        all.add((long) x.apply());
        all.add(x.put(33, 6, 0, 0) ? 1L : 0L);
        all.add((long) x.apply());
        all.add((long) x.apply());
        all.add((long) x.scan(0, 63, -1, 0, 9999));
        for (int k = 0; k < 40; k++) {
            all.add(x.found(k));
        }
        all.add((long) x.looked());
        return all;
    }

    private static void tellTablets(TabletCells x, List<Long> all) {
        int tablets = Edge.tablets(x);
        for (int t = 0; t < tablets; t++) {
            for (int what = 0; what < 4; what++) {
                all.add((long) x.tablet(t, what));
            }
            int tables = x.tablet(t, 2);
            for (int k = 0; k < tables; k++) {
                for (int what = 0; what < 4; what++) {
                    all.add((long) x.table(t, k, what));
                }
            }
        }
    }

    private static void refused(String state, Supplier<TabletCells> made, String call, ToLongFunction<TabletCells> refused, long due) {
        TabletCells x = made.get();
        TabletCells y = made.get();
        Check.is(state + ", " + call, refused.applyAsLong(x), due);
        List<Long> toldOfX = told(x);
        List<Long> toldOfY = told(y);
        Check.is(state + ", " + call + ": what is told " + toldOfX + " is " + toldOfY, toldOfX.equals(toldOfY), true);
    }

    private static void wrongChanges() {
        for (int row : Edge.NO_ROWS) {
            ALWAYS.put("2: put, row " + row, x -> x.put(row, 0, 0, 9) ? 1 : 0);
            ALWAYS.put("3: erase of a cell, row " + row, x -> x.erase(row, 0, 0) ? 1 : 0);
            ALWAYS.put("3: erase of a row, row " + row, x -> x.erase(row, -1, -1) ? 1 : 0);
            ALWAYS.put("4: expect, row " + row, x -> x.expect(row, 0, true, 77) ? 1 : 0);
        }
        for (int column : Edge.NO_COLUMNS) {
            ALWAYS.put("2: put, column " + column, x -> x.put(33, column, 0, 9) ? 1 : 0);
            ALWAYS.put("3: erase, column " + column, x -> x.erase(33, column, 0) ? 1 : 0);
            ALWAYS.put("4: expect, column " + column, x -> x.expect(33, column, true, 77) ? 1 : 0);
        }
        for (int time : Edge.NO_TIMES) {
            ALWAYS.put("2: put, time " + time, x -> x.put(33, 0, time, 9) ? 1 : 0);
            if (time != -1) {
                ALWAYS.put("3: erase, time " + time, x -> x.erase(33, 0, time) ? 1 : 0);
                ALWAYS.put("3: erase of a row, time " + time, x -> x.erase(33, -1, time) ? 1 : 0);
            }
        }
    }

    private static void wrongReads() {
        for (int row : Edge.NO_ROWS) {
            ALWAYS.put("9: get, row " + row, x -> x.get(row, 0, 9999, 0) + 1);
        }
        for (int column : Edge.NO_COLUMNS) {
            ALWAYS.put("9: get, column " + column, x -> x.get(5, column, 9999, 0) + 1);
            if (column != -1) {
                ALWAYS.put("10: scan, column " + column, x -> x.scan(0, 63, column, 0, 9999) + 1);
            }
        }
        for (int k : new int[] {Edge.LEAST, -1, 247, Edge.GREATEST}) {
            ALWAYS.put("11: found, k " + k, x -> x.found(k) + 1);
        }
    }

    private static void wrongTables() {
        for (int t : new int[] {Edge.LEAST, -1, 8, Edge.GREATEST}) {
            ALWAYS.put("12: flush, tablet " + t, x -> x.flush(t) + 1);
            ALWAYS.put("13: compact, tablet " + t, x -> x.compact(t, 2) + 1);
            ALWAYS.put("14: major, tablet " + t, x -> x.major(t) + 1);
            ALWAYS.put("18: table, tablet " + t, x -> x.table(t, 0, 0) + 1);
        }
        for (int k : new int[] {Edge.LEAST, -1, 0, 1, 247, Edge.GREATEST}) {
            ALWAYS.put("13: compact, k " + k, x -> x.compact(0, k) + 1);
        }
        for (int k : new int[] {Edge.LEAST, -1, 247, Edge.GREATEST}) {
            ALWAYS.put("18: table, k " + k, x -> x.table(0, k, 0) + 1);
        }
        for (int what : new int[] {Edge.LEAST, -1, 4, Edge.GREATEST}) {
            ALWAYS.put("18: table, what " + what, x -> x.table(0, 0, what) + 1);
        }
    }

    private static void wrongTablets() {
        for (int t : new int[] {Edge.LEAST, -1, 8, Edge.GREATEST}) {
            ALWAYS.put("15: split, tablet " + t, x -> x.split(t, 20) ? 1 : 0);
            ALWAYS.put("16: join, tablet " + t, x -> x.join(t) ? 1 : 0);
            ALWAYS.put("17: tablet, tablet " + t, x -> x.tablet(t, 0) + 1);
        }
        for (int row : new int[] {Edge.LEAST, -1, 0, 64, Edge.GREATEST}) {
            ALWAYS.put("15: split, row " + row, x -> x.split(0, row) ? 1 : 0);
        }
        for (int what : new int[] {Edge.LEAST, -1, 4, Edge.GREATEST}) {
            ALWAYS.put("17: tablet, what " + what, x -> x.tablet(0, what) + 1);
        }
        ALWAYS.put("16: join, tablet 7", x -> x.join(7) ? 1 : 0);
    }

    /** Reckoned so that all of them answer 0 when they are refused. */
    private static void inAllStates() {
        for (String state : STATES.keySet()) {
            for (String call : ALWAYS.keySet()) {
                refused(state, STATES.get(state), call, ALWAYS.get(call), 0);
            }
            for (int n : new int[] {Edge.LEAST, -1, 5001, Edge.GREATEST}) {
                refused(state, STATES.get(state), "8: tick(" + n + ")", x -> x.tick(n) - x.tick(0), 0);
            }
        }
    }

    private static void refusedByTheBatch() {
        for (int row : new int[] {32, 34}) {
            refused("a batch of row 33", RefusedTest::busy, "2: put, row " + row, x -> x.put(row, 0, 0, 0) ? 1 : 0, 0);
            refused("a batch of row 33", RefusedTest::busy, "3: erase, row " + row, x -> x.erase(row, -1, -1) ? 1 : 0, 0);
        }
        refused("four changes", RefusedTest::ofFourChanges, "2: put, a fifth", x -> x.put(33, 0, 0, 0) ? 1 : 0, 0);
        refused("four changes", RefusedTest::ofFourChanges, "3: erase, a fifth", x -> x.erase(33, -1, -1) ? 1 : 0, 0);
        refused("four changes", RefusedTest::ofFourChanges, "2: put, a fifth of another row", x -> x.put(34, 0, 0, 0) ? 1 : 0, 0);
    }

    private static void refusedByTheTables() {
        for (int t = 0; t < 2; t++) {
            int tablet = t;
            refused("two tables", RefusedTest::busy, "13: compact(" + t + ", 3)", x -> x.compact(tablet, 3), TabletCells.BAD);
            refused("two tables", RefusedTest::busy, "18: table(" + t + ", 2, 0)", x -> x.table(tablet, 2, 0), TabletCells.BAD);
        }
        refused("two tablets", RefusedTest::busy, "12: flush(2)", x -> x.flush(2), TabletCells.BAD);
        refused("two tablets", RefusedTest::busy, "13: compact(2, 2)", x -> x.compact(2, 2), TabletCells.BAD);
        refused("two tablets", RefusedTest::busy, "14: major(2)", x -> x.major(2), TabletCells.BAD);
        refused("no tables", Edge::plain, "13: compact(0, 2)", x -> x.compact(0, 2), TabletCells.BAD);
    }

    private static void refusedByTheTablets() {
        refused("two tablets", RefusedTest::busy, "15: split(0, 32)", x -> x.split(0, 32) ? 1 : 0, 0);
        refused("two tablets", RefusedTest::busy, "15: split(1, 32)", x -> x.split(1, 32) ? 1 : 0, 0);
        refused("two tablets", RefusedTest::busy, "15: split(1, 31)", x -> x.split(1, 31) ? 1 : 0, 0);
        refused("two tablets", RefusedTest::busy, "15: split(2, 63)", x -> x.split(2, 63) ? 1 : 0, 0);
        refused("two tablets", RefusedTest::busy, "16: join(1)", x -> x.join(1) ? 1 : 0, 0);
        refused("two tablets", RefusedTest::busy, "17: tablet(2, 0)", x -> x.tablet(2, 0), TabletCells.BAD);
        refused("one tablet", Edge::plain, "16: join(0)", x -> x.join(0) ? 1 : 0, 0);
        for (int t = 0; t < 8; t++) {
            int tablet = t;
            refused("eight tablets", RefusedTest::eightTablets, "15: split(" + t + ")", x -> x.split(tablet, 8 * tablet + 4) ? 1 : 0, 0);
        }
    }

    private static void refusedByApply() {
        refused("no batch", Edge::plain, "5: apply", x -> x.apply(), TabletCells.BAD);
        refused("torn, no changes", RefusedTest::tornWithExpectation, "5: apply", x -> x.apply(), TabletCells.BAD);
        refused("full", RefusedTest::full, "5: apply", x -> x.apply(), TabletCells.FULL);
        refused("full and torn", () -> {
            TabletCells x = full();
            x.tear();
            return x;
        }, "5: apply", x -> x.apply(), TabletCells.FULL);
    }
}
