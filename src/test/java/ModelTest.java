import java.util.Random;

/** All promises at once: long runs of mixed calls, each answer held against the plain model's. */
public final class ModelTest {
    private static final int RUNS = 4000;
    private static final int CALLS = 512;
    private static final int[] ODD = {Integer.MIN_VALUE, -2, -1, 0, 7, 8, 63, 64, 9999, 10000, 5000, 5001, Integer.MAX_VALUE};

    private final Random random;
    private final TabletCells x;
    private final Model model;
    private final int rows;
    private final int firstRow;
    private final int columns;
    private final int times;
    private final int tidiness;
    /** Some runs do little else than change, so that they come to be full. */
    private final boolean isFilling;
    private final String run;

    private ModelTest(int seed) {
        random = new Random(seed);
        int[] n = {pick(9) - 1, pick(3) * pick(60), pick(9) - 1, pick(3) * pick(10100)};
        x = new TabletCells(n[0], n[1], n[2], n[3]);
        model = new Model(n[0], n[1], n[2], n[3]);
        rows = pick(3) == 0 ? 64 : 1 + pick(6);
        firstRow = pick(64 - rows + 1);
        columns = 1 + pick(8);
        times = pick(2) == 0 ? 1 + pick(12) : 10000;
        tidiness = pick(4);
        isFilling = pick(5) == 0;
        run = "run " + seed + ", ";
    }

    public static void main(String[] args) {
        for (int seed = 0; seed < RUNS && Check.isClean(); seed++) {
            new ModelTest(seed).calls();
        }
        Check.end();
    }

    private void calls() {
        for (int i = 0; i < CALLS && Check.isClean(); i++) {
            int kind = pick(100);
            if (kind < 55) {
                batch(kind);
            } else if (isFilling) {
                batch(pick(4) == 0 ? 40 : 0);
            } else if (kind < 72) {
                read(kind);
            } else if (kind < 72 + 4 * tidiness) {
                tidy();
            } else {
                ask();
            }
        }
        Check.is(run + "the model is of one piece", model.isOfOnePiece(), true);
    }

    private int pick(int n) {
        return random.nextInt(n);
    }

    private int or(int usual) {
        return pick(60) == 0 ? ODD[pick(ODD.length)] : usual;
    }

    private int row() {
        return or(firstRow + pick(rows));
    }

    private int column() {
        return or((pick(columns) * 5) % 8);
    }

    private int time() {
        return or(pick(times));
    }

    private int value() {
        return pick(3) == 0 ? random.nextInt() : pick(3);
    }

    private int place() {
        return or(pick(pick(8) + 1));
    }

    /** A row that a batch may have taken already, so that most changes are taken. */
    private int batchRow = 0;

    private void batch(int kind) {
        if (pick(6) == 0) {
            batchRow = row();
        }
        if (kind < 26) {
            int row = batchRow, column = column(), time = time(), value = value();
            Check.is(run + "put", x.put(row, column, time, value), model.put(row, column, time, value));
        } else if (kind < 32) {
            int what = pick(6);
            int row = batchRow, column = what == 0 ? -1 : column(), time = what < 2 ? -1 : time();
            Check.is(run + "erase", x.erase(row, column, time), model.erase(row, column, time));
        } else if (kind < 35) {
            int row = row(), column = column(), value = pick(3);
            boolean some = pick(2) == 0;
            Check.is(run + "expect", x.expect(row, column, some, value), model.expect(row, column, some, value));
        } else if (kind < 53) {
            Check.is(run + "apply", x.apply(), model.apply());
            batchRow = row();
        } else if (kind == 53) {
            x.tear();
            model.tear();
        } else {
            x.crash();
            model.crash();
        }
    }

    private void read(int kind) {
        if (kind < 61) {
            int row = row(), column = column(), at = time(), n = pick(4) - pick(2);
            Check.is(run + "get", x.get(row, column, at, n), model.get(row, column, at, n));
        } else if (kind < 65) {
            int low = row(), high = pick(2) == 0 ? low + pick(5) : row(), column = pick(2) == 0 ? -1 : column();
            int from = pick(2) == 0 ? 0 : time(), to = pick(2) == 0 ? 9999 : time();
            Check.is(run + "scan", x.scan(low, high, column, from, to), model.scan(low, high, column, from, to));
        } else if (kind < 68) {
            int k = or(pick(20));
            Check.is(run + "found", x.found(k), model.found(k));
        } else if (kind < 70) {
            Check.is(run + "looked", x.looked(), model.looked());
        } else {
            int n = or(pick(8) == 0 ? pick(6000) : pick(10));
            Check.is(run + "tick", x.tick(n), model.tick(n));
        }
    }

    private void tidy() {
        int t = place();
        int what = pick(9);
        if (what < 2) {
            Check.is(run + "flush", x.flush(t), model.flush(t));
        } else if (what < 4) {
            int k = or(pick(5) + 1);
            Check.is(run + "compact", x.compact(t, k), model.compact(t, k));
        } else if (what == 4) {
            Check.is(run + "major", x.major(t), model.major(t));
        } else if (what < 8) {
            int row = pick(2) == 0 ? or(model.tablet(t, 0) + pick(12)) : row();
            Check.is(run + "split", x.split(t, row), model.split(t, row));
        } else {
            Check.is(run + "join", x.join(t), model.join(t));
        }
    }

    private void ask() {
        int t = place(), what = or(pick(4)), k = place();
        if (pick(5) == 0) {
            Check.is(run + "log", x.log(), model.log());
        } else if (pick(2) == 0) {
            Check.is(run + "tablet", x.tablet(t, what), model.tablet(t, what));
        } else {
            Check.is(run + "table", x.table(t, k, what), model.table(t, k, what));
        }
    }
}
