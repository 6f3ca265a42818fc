/**
 * A store of cells with versions, in tablets that split and are joined.
 *
 * All entries of the object stand in one row of slots, in the ORDER of the document. Which tablet an
 * entry is in follows from its row, and a number on the entry tells its table (or the memtable): so
 * tablets, tables, blocks, filters and the log are read off the entries and cannot disagree with them.
 */
public final class TabletCells {
    public static final int BAD = -1;
    public static final int FULL = -2;
    public static final int TORN = -3;

    private static final int ROWS = 64;
    private static final int COLUMNS = 8;
    private static final int COLUMNS_OF_FAMILY = 4;
    private static final int FAMILIES = 2;
    private static final int TIMES = 10000;
    private static final int GREATEST_NUMBER = 5;
    private static final int GREATEST_AGE = 9999;
    private static final int GREATEST_TICK = 5000;
    private static final int MOST_CHANGES = 4;
    private static final int MOST_TABLETS = 8;
    private static final int FULL_AT = 240;
    private static final int FLUSH_AT = 16;
    private static final int BLOCK = 4;

    /** One less than full, and then a whole batch, each change of which may ask for an erasure. */
    private static final int ROOM = FULL_AT - 1 + 2 * MOST_CHANGES;

    /** As a column: all of the row. As a time: all of the column. */
    private static final int WHOLE = -1;

    /** In the place of a table's number. */
    private static final int MEMTABLE = -1;

    private static final long HIGH_HALF = 4294967296L;
    private static final long LOW_HALF = 4294967295L;

    private final int[] numbers = new int[FAMILIES];
    private final int[] ages = new int[FAMILIES];
    private int clock = 0;

    private final Entry[] entries = new Entry[ROOM];
    private int entryCount = 0;
    private int lastSequence = 0;

    /** Behind the last tablet's first row stands the row after all, as if a tablet began there. */
    private final int[] firstRows = new int[MOST_TABLETS + 1];
    private int tabletCount = 1;

    private final Batch batch = new Batch();
    private boolean willTear = false;

    private final long[] result = new long[ROOM];
    private int resultSize = 0;

    private final Sight sight = new Sight();
    private int lookedAt = 0;

    public TabletCells(int number0, int age0, int number1, int age1) {
        numbers[0] = nearest(number0, GREATEST_NUMBER);
        ages[0] = nearest(age0, GREATEST_AGE);
        numbers[1] = nearest(number1, GREATEST_NUMBER);
        ages[1] = nearest(age1, GREATEST_AGE);
        firstRows[1] = ROWS;
    }

    // ---- the batch

    public boolean put(int row, int column, int time, int value) {
        if (!isRow(row) || !isColumn(column) || !isTime(time) || !batch.takes(row)) {
            return false;
        }
        batch.addCell(row, column, time, value);
        return true;
    }

    public boolean erase(int row, int column, int time) {
        if (!isRow(row) || !isErasable(column, time) || !batch.takes(row)) {
            return false;
        }
        batch.addErasure(row, column, time);
        return true;
    }

    public boolean expect(int row, int column, boolean some, int value) {
        if (!isRow(row) || !isColumn(column)) {
            return false;
        }
        batch.setExpectation(row, column, some, value);
        return true;
    }

    public int apply() {
        if (batch.size == 0) {
            return BAD;
        }
        if (entryCount >= FULL_AT) {
            return FULL;
        }
        if (willTear) {
            willTear = false;
            crash();
            return TORN;
        }
        int made = isExpectationMet() ? applyChanges() : 0;
        batch.empty();
        return made;
    }

    public void tear() {
        willTear = true;
    }

    public void crash() {
        // Memtables come back from the log as they were, so only what was never logged is lost.
        batch.empty();
    }

    public int tick(int n) {
        if (n >= 0 && n <= GREATEST_TICK) {
            clock += n;
        }
        return clock;
    }

    private boolean isExpectationMet() {
        if (!batch.hasExpectation) {
            return true;
        }
        Entry latest = liveCell(batch.expectedRow, batch.expectedColumn, TIMES, 0);
        if (latest == null) {
            return !batch.expectsSome;
        }
        return batch.expectsSome && latest.value == batch.expectedValue;
    }

    private int applyChanges() {
        int before = entryCount;
        for (int i = 0; i < batch.size; i++) {
            applyChange(i);
        }
        int made = entryCount - before;
        int t = tabletOf(batch.row);
        if (entriesIn(t, MEMTABLE) >= FLUSH_AT) {
            flushTablet(t);
        }
        return made;
    }

    private void applyChange(int i) {
        int column = batch.columns[i];
        boolean isErasure = batch.erasures[i];
        Entry made = makeEntry(batch.row, column, batch.times[i], isErasure);
        if (made == null) {
            return;
        }
        made.value = batch.values[i];
        made.opensBatch = i == 0;
        if (!isErasure) {
            eraseBeyondNumber(batch.row, column);
        }
    }

    private void eraseBeyondNumber(int row, int column) {
        int number = numbers[familyOf(column)];
        if (number == 0) {
            return;
        }
        // By falling times, so the cell behind the first n is the least one: no more than one is too many.
        Entry least = liveCell(row, column, TIMES, number);
        if (least != null) {
            makeEntry(row, column, least.time, true);
        }
    }

    // ---- reading

    public long get(int row, int column, int at, int n) {
        if (!isRow(row) || !isColumn(column)) {
            return BAD;
        }
        lookFor(row);
        Entry cell = liveCell(row, column, at, n);
        return cell == null ? BAD : packed(cell.time, cell.value);
    }

    public int scan(int low, int high, int column, int from, int to) {
        if (column != WHOLE && !isColumn(column)) {
            return BAD;
        }
        int first = Math.max(low, 0);
        int last = Math.min(high, ROWS - 1);
        for (int row = first; row <= last; row++) {
            lookFor(row);
        }
        resultSize = 0;
        for (int i = 0; i < entryCount; i++) {
            Entry e = entries[i];
            boolean isInside = e.row >= first && e.row <= last && e.time >= from && e.time <= to;
            if (isInside && (column == WHOLE || e.column == column) && isLive(e)) {
                addToResult(e);
            }
        }
        return resultSize;
    }

    public long found(int k) {
        return k >= 0 && k < resultSize ? result[k] : BAD;
    }

    public int looked() {
        return lookedAt;
    }

    private void addToResult(Entry e) {
        if (resultSize < result.length) {
            result[resultSize] = packed((e.row * COLUMNS + e.column) * TIMES + e.time, e.value);
            resultSize++;
        }
    }

    /** The n-th live cell of a column by falling time, of those not later than a time; null if there is none. */
    private Entry liveCell(int row, int column, int at, int n) {
        int seen = 0;
        for (int i = indexOfRow(row); i < entryCount && entries[i].row == row; i++) {
            Entry e = entries[i];
            if (e.column == column && e.time <= at && isLive(e)) {
                if (seen == n) {
                    return e;
                }
                seen++;
            }
        }
        return null;
    }

    private void lookFor(int row) {
        int t = tabletOf(row);
        int end = endOf(t);
        sight.begin(row);
        for (int i = startOf(t); i < end; i++) {
            if (entries[i].table != MEMTABLE) {
                sight.pass(entries[i].table, entries[i].row);
            }
        }
        lookedAt += sight.blocksLookedAt();
    }

    // ---- tables

    public int flush(int t) {
        return isTablet(t) ? flushTablet(t) : BAD;
    }

    public int compact(int t, int k) {
        if (!isTablet(t) || k < 2 || k > tableCount(t)) {
            return BAD;
        }
        int first = tableCount(t) - k;
        int end = endOf(t);
        for (int i = startOf(t); i < end; i++) {
            Entry e = entries[i];
            e.leaves = e.table >= first && (isOldCell(e) || isCoveredInTables(i, first));
        }
        return mergeTables(t, first);
    }

    public int major(int t) {
        if (!isTablet(t)) {
            return BAD;
        }
        flushTablet(t);
        int end = endOf(t);
        for (int i = startOf(t); i < end; i++) {
            entries[i].leaves = !isLive(entries[i]);
        }
        return mergeTables(t, 0);
    }

    public int table(int t, int k, int what) {
        if (!isTablet(t) || k < 0 || k >= tableCount(t)) {
            return BAD;
        }
        switch (what) {
            case 0:
                return entriesIn(t, k);
            case 1:
                return erasuresIn(t, k);
            case 2:
                return (entriesIn(t, k) + BLOCK - 1) / BLOCK;
            case 3:
                return firstRowIn(t, k);
            default:
                return BAD;
        }
    }

    public int log() {
        // The entries of a batch are of one row and go from memtable to table together: its first speaks for all.
        int batches = 0;
        for (int i = 0; i < entryCount; i++) {
            if (entries[i].table == MEMTABLE && entries[i].opensBatch) {
                batches++;
            }
        }
        return batches;
    }

    private int flushTablet(int t) {
        int flushed = entriesIn(t, MEMTABLE);
        int next = tableCount(t);
        int end = endOf(t);
        for (int i = startOf(t); i < end; i++) {
            if (entries[i].table == MEMTABLE) {
                entries[i].table = next;
            }
        }
        return flushed;
    }

    private boolean isCoveredInTables(int index, int first) {
        // What covers an entry stands ahead of it in ORDER and is of its row.
        Entry e = entries[index];
        for (int i = index - 1; i >= 0 && entries[i].row == e.row; i--) {
            if (entries[i].table >= first && entries[i].covers(e)) {
                return true;
            }
        }
        return false;
    }

    /** Makes one table, at the place of the first, of those entries of a tablet's last tables that do not leave. */
    private int mergeTables(int t, int first) {
        int left = 0;
        int end = endOf(t);
        for (int i = startOf(t); i < end; i++) {
            Entry e = entries[i];
            if (e.table >= first && !e.leaves) {
                e.table = first;
                left++;
            }
        }
        removeLeaving();
        return left;
    }

    private int entriesIn(int t, int table) {
        int n = 0;
        int end = endOf(t);
        for (int i = startOf(t); i < end; i++) {
            if (entries[i].table == table) {
                n++;
            }
        }
        return n;
    }

    private int erasuresIn(int t, int table) {
        int n = 0;
        int end = endOf(t);
        for (int i = startOf(t); i < end; i++) {
            if (entries[i].table == table && entries[i].isErasure) {
                n++;
            }
        }
        return n;
    }

    private int firstRowIn(int t, int table) {
        int end = endOf(t);
        for (int i = startOf(t); i < end; i++) {
            if (entries[i].table == table) {
                return entries[i].row;
            }
        }
        return BAD;
    }

    /** No table is without entries, so the greatest number on an entry tells how many there are. */
    private int tableCount(int t) {
        int last = MEMTABLE;
        int end = endOf(t);
        for (int i = startOf(t); i < end; i++) {
            last = Math.max(last, entries[i].table);
        }
        return last + 1;
    }

    // ---- tablets

    public boolean split(int t, int row) {
        if (!isTablet(t) || tabletCount >= MOST_TABLETS) {
            return false;
        }
        if (row <= firstRows[t] || row >= firstRows[t + 1]) {
            return false;
        }
        for (int i = tabletCount; i > t; i--) {
            firstRows[i + 1] = firstRows[i];
        }
        firstRows[t + 1] = row;
        tabletCount++;
        closeGaps(t);
        closeGaps(t + 1);
        return true;
    }

    public boolean join(int t) {
        if (t < 0 || t >= tabletCount - 1) {
            return false;
        }
        int ahead = tableCount(t);
        int end = endOf(t + 1);
        for (int i = startOf(t + 1); i < end; i++) {
            if (entries[i].table != MEMTABLE) {
                entries[i].table += ahead;
            }
        }
        tabletCount--;
        for (int i = t + 1; i <= tabletCount; i++) {
            firstRows[i] = firstRows[i + 1];
        }
        return true;
    }

    public int tablet(int t, int what) {
        if (!isTablet(t)) {
            return BAD;
        }
        switch (what) {
            case 0:
                return firstRows[t];
            case 1:
                return firstRows[t + 1] - 1;
            case 2:
                return tableCount(t);
            case 3:
                return entriesIn(t, MEMTABLE);
            default:
                return BAD;
        }
    }

    /** A split may leave one side no entries of a table: there the tables behind it move up. */
    private void closeGaps(int t) {
        for (int k = tableCount(t) - 1; k >= 0; k--) {
            if (entriesIn(t, k) == 0) {
                moveUpBehind(t, k);
            }
        }
    }

    private void moveUpBehind(int t, int table) {
        int end = endOf(t);
        for (int i = startOf(t); i < end; i++) {
            if (entries[i].table > table) {
                entries[i].table--;
            }
        }
    }

    private int tabletOf(int row) {
        int t = 0;
        while (t + 1 < tabletCount && firstRows[t + 1] <= row) {
            t++;
        }
        return t;
    }

    private int startOf(int t) {
        return indexOfRow(firstRows[t]);
    }

    private int endOf(int t) {
        return indexOfRow(firstRows[t + 1]);
    }

    // ---- entries

    /** Where the entries of a row, or of those behind it if it has none, begin. */
    private int indexOfRow(int row) {
        int i = 0;
        while (i < entryCount && entries[i].row < row) {
            i++;
        }
        return i;
    }

    private Entry makeEntry(int row, int column, int time, boolean isErasure) {
        if (entryCount >= entries.length) {
            return null;
        }
        Entry made = unusedEntry();
        lastSequence++;
        made.begin(row, column, time, isErasure, lastSequence);
        for (int i = 0; i < entryCount; i++) {
            if (made.covers(entries[i])) {
                entries[i].isCovered = true;
            }
        }
        insert(made);
        return made;
    }

    /** Entries that left are used again, so an object never makes more of them than it holds at once. */
    private Entry unusedEntry() {
        if (entries[entryCount] == null) {
            entries[entryCount] = new Entry();
        }
        return entries[entryCount];
    }

    private void insert(Entry made) {
        int i = entryCount;
        // The new one has the highest sequence, so it goes ahead of those that are alike.
        while (i > 0 && entries[i - 1].place >= made.place) {
            entries[i] = entries[i - 1];
            i--;
        }
        entries[i] = made;
        entryCount++;
    }

    private void removeLeaving() {
        int kept = 0;
        for (int i = 0; i < entryCount; i++) {
            Entry e = entries[i];
            if (!e.leaves) {
                // An exchange, not a copy: what leaves must stay in a slot to be used again.
                entries[i] = entries[kept];
                entries[kept] = e;
                kept++;
            }
        }
        entryCount = kept;
    }

    private boolean isLive(Entry e) {
        return !e.isErasure && !e.isCovered && !isOldCell(e);
    }

    private boolean isOldCell(Entry e) {
        if (e.isErasure) {
            return false;
        }
        int age = ages[e.family];
        return age != 0 && e.time + age <= clock;
    }

    // ---- numbers

    private boolean isTablet(int t) {
        return t >= 0 && t < tabletCount;
    }

    private static boolean isRow(int row) {
        return row >= 0 && row < ROWS;
    }

    private static boolean isColumn(int column) {
        return column >= 0 && column < COLUMNS;
    }

    private static boolean isTime(int time) {
        return time >= 0 && time < TIMES;
    }

    private static boolean isErasable(int column, int time) {
        if (column == WHOLE) {
            return time == WHOLE;
        }
        return isColumn(column) && (time == WHOLE || isTime(time));
    }

    private static int familyOf(int column) {
        return column < COLUMNS_OF_FAMILY ? 0 : 1;
    }

    private static int nearest(int number, int greatest) {
        return Math.max(0, Math.min(number, greatest));
    }

    private static long packed(int high, int value) {
        return HIGH_HALF * high + (value & LOW_HALF);
    }

    private static final class Entry {
        private int row;
        private int column;
        private int family;
        private int time;
        private boolean isErasure;
        private int value;
        private int sequence;
        /** Where it stands in ORDER, but for the sequence. */
        private int place;
        private int table;
        private boolean opensBatch;
        /** Kept, since what is covered once is so for good, also when what covered it has left. */
        private boolean isCovered;
        private boolean leaves;

        private void begin(int row, int column, int time, boolean isErasure, int sequence) {
            this.row = row;
            this.column = column;
            this.family = familyOf(column);
            this.time = time;
            this.isErasure = isErasure;
            this.value = 0;
            this.sequence = sequence;
            int behind = time == WHOLE ? 0 : TIMES - time;
            this.place = (row * (COLUMNS + 1) + column + 1) * (TIMES + 1) + behind;
            this.table = MEMTABLE;
            this.opensBatch = false;
            this.isCovered = false;
            this.leaves = false;
        }

        private boolean covers(Entry other) {
            if (sequence <= other.sequence || row != other.row) {
                return false;
            }
            if (column == WHOLE) {
                return true;
            }
            return column == other.column && (time == WHOLE || time == other.time);
        }
    }

    private static final class Batch {
        private int row = 0;
        private int size = 0;
        private final int[] columns = new int[MOST_CHANGES];
        private final int[] times = new int[MOST_CHANGES];
        private final int[] values = new int[MOST_CHANGES];
        private final boolean[] erasures = new boolean[MOST_CHANGES];
        private boolean hasExpectation = false;
        private int expectedRow = 0;
        private int expectedColumn = 0;
        private boolean expectsSome = false;
        private int expectedValue = 0;

        private boolean takes(int otherRow) {
            return size == 0 || size < MOST_CHANGES && row == otherRow;
        }

        private void addCell(int row, int column, int time, int value) {
            addChange(row, column, time);
            values[size] = value;
            erasures[size] = false;
            size++;
        }

        private void addErasure(int row, int column, int time) {
            addChange(row, column, time);
            values[size] = 0;
            erasures[size] = true;
            size++;
        }

        private void addChange(int row, int column, int time) {
            this.row = row;
            columns[size] = column;
            times[size] = time;
        }

        private void setExpectation(int row, int column, boolean some, int value) {
            hasExpectation = true;
            expectedRow = row;
            expectedColumn = column;
            expectsSome = some;
            expectedValue = value;
        }

        private void empty() {
            size = 0;
            hasExpectation = false;
        }
    }

    /** What looking for one row sees of each table of a tablet. */
    private static final class Sight {
        private int wanted = 0;
        private int tables = 0;
        private final long[] filters = new long[ROOM];
        private final int[] ahead = new int[ROOM];
        private final int[] ofRow = new int[ROOM];

        private void begin(int row) {
            for (int k = 0; k < tables; k++) {
                filters[k] = 0L;
                ahead[k] = 0;
                ofRow[k] = 0;
            }
            wanted = row;
            tables = 0;
        }

        private void pass(int table, int row) {
            if (table < 0 || table >= ROOM) {
                return;
            }
            tables = Math.max(tables, table + 1);
            filters[table] |= bitsOf(row);
            if (row < wanted) {
                ahead[table]++;
            } else if (row == wanted) {
                ofRow[table]++;
            }
        }

        private int blocksLookedAt() {
            long bits = bitsOf(wanted);
            int blocks = 0;
            for (int k = 0; k < tables; k++) {
                if ((filters[k] & bits) == bits) {
                    blocks += ofRow[k] == 0 ? 1 : blocksOfRow(k);
                }
            }
            return blocks;
        }

        private int blocksOfRow(int table) {
            int firstBlock = ahead[table] / BLOCK;
            int lastBlock = (ahead[table] + ofRow[table] - 1) / BLOCK;
            return lastBlock - firstBlock + 1;
        }

        private static long bitsOf(int row) {
            return 1L << (7 * row + 3) % 64 | 1L << (13 * row + 29) % 64;
        }
    }
}
