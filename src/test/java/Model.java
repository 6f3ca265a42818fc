import java.util.ArrayList;
import java.util.BitSet;
import java.util.Comparator;
import java.util.HashSet;
import java.util.List;
import java.util.Map;
import java.util.Set;
import java.util.TreeMap;

/**
 * The document's words once more, in the plainest form and in another way than the class: what can be
 * read is a map that each change alters at once, and the entries stand in lists, for the rest.
 */
final class Model {
    private record Entry(int row, int column, int time, boolean erasure, int value, int sequence, int batch) {
        boolean ofRow() {
            return column == -1;
        }

        boolean ofColumn() {
            return column != -1 && time == -1;
        }

        boolean ofCell() {
            return time != -1;
        }

        boolean covers(Entry o) {
            if (o.sequence >= sequence || o.row != row) {
                return false;
            }
            if (ofRow()) {
                return true;
            }
            if (ofColumn()) {
                return !o.ofRow() && o.column == column;
            }
            return o.ofCell() && o.column == column && o.time == time;
        }
    }

    private record Key(int row, int column, int time) implements Comparable<Key> {
        public int compareTo(Key o) {
            if (row != o.row) {
                return Integer.compare(row, o.row);
            }
            return column != o.column ? Integer.compare(column, o.column) : Integer.compare(o.time, time);
        }
    }

    private static final Comparator<Entry> ORDER = Comparator.comparingInt(Entry::row)
        .thenComparing(e -> e.ofRow() ? 0 : 1)
        .thenComparingInt(Entry::column)
        .thenComparing(e -> e.ofColumn() ? 0 : 1)
        .thenComparing(Comparator.comparingInt(Entry::time).reversed())
        .thenComparing(Comparator.comparingInt(Entry::sequence).reversed());

    private static final class Tablet {
        int first;
        int last;
        List<Entry> memtable = new ArrayList<>();
        List<List<Entry>> tables = new ArrayList<>();
    }

    private final int[] number;
    private final int[] age;
    private final TreeMap<Key, Integer> live = new TreeMap<>();
    private final List<Tablet> tablets = new ArrayList<>();
    private final List<int[]> changes = new ArrayList<>();
    private int[] expectation = null;
    private int clock = 0;
    private int sequence = 0;
    private int batches = 0;
    private int looked = 0;
    private boolean torn = false;
    private List<Long> result = new ArrayList<>();

    Model(int number0, int age0, int number1, int age1) {
        number = new int[] {between(number0, 5), between(number1, 5)};
        age = new int[] {between(age0, 9999), between(age1, 9999)};
        Tablet all = new Tablet();
        all.last = 63;
        tablets.add(all);
    }

    private static int between(int n, int greatest) {
        return n < 0 ? 0 : n > greatest ? greatest : n;
    }

    private static boolean in(int n, int low, int high) {
        return low <= n && n <= high;
    }

    boolean put(int row, int column, int time, int value) {
        if (!in(row, 0, 63) || !in(column, 0, 7) || !in(time, 0, 9999)) {
            return false;
        }
        return change(new int[] {row, column, time, 0, value});
    }

    boolean erase(int row, int column, int time) {
        if (!in(row, 0, 63) || !in(column, -1, 7) || !in(time, -1, 9999) || column == -1 && time != -1) {
            return false;
        }
        return change(new int[] {row, column, time, 1, 0});
    }

    private boolean change(int[] c) {
        if (changes.size() == 4 || !changes.isEmpty() && changes.get(0)[0] != c[0]) {
            return false;
        }
        return changes.add(c);
    }

    boolean expect(int row, int column, boolean some, int value) {
        if (!in(row, 0, 63) || !in(column, 0, 7)) {
            return false;
        }
        expectation = new int[] {row, column, some ? 1 : 0, value};
        return true;
    }

    int entries() {
        int n = 0;
        for (Tablet t : tablets) {
            n += t.memtable.size();
            for (List<Entry> table : t.tables) {
                n += table.size();
            }
        }
        return n;
    }

    int apply() {
        if (changes.isEmpty()) {
            return -1;
        }
        if (entries() >= 240) {
            return -2;
        }
        boolean wasTorn = torn;
        torn = false;
        boolean isMet = isMet();
        List<int[]> made = new ArrayList<>(changes);
        crash();
        if (wasTorn) {
            return -3;
        }
        return isMet ? applyAll(made) : 0;
    }

    private boolean isMet() {
        if (expectation == null) {
            return true;
        }
        List<Map.Entry<Key, Integer>> cells = cells(expectation[0], expectation[1]);
        if (expectation[2] == 0) {
            return cells.isEmpty();
        }
        return !cells.isEmpty() && cells.get(0).getValue() == expectation[3];
    }

    private int applyAll(List<int[]> made) {
        batches++;
        int n = 0;
        for (int[] c : made) {
            n += c[3] == 0 ? applyCell(c) : applyErasure(c[0], c[1], c[2]);
        }
        Tablet t = tabletOf(made.get(0)[0]);
        if (t.memtable.size() >= 16) {
            flush(tablets.indexOf(t));
        }
        return n;
    }

    private int applyCell(int[] c) {
        make(c[0], c[1], c[2], false, c[4]);
        if (!isTooOld(c[1], c[2])) {
            live.put(new Key(c[0], c[1], c[2]), c[4]);
        }
        int most = number[c[1] / 4];
        List<Map.Entry<Key, Integer>> cells = cells(c[0], c[1]);
        if (most == 0 || cells.size() <= most) {
            return 1;
        }
        return 1 + applyErasure(c[0], c[1], cells.get(cells.size() - 1).getKey().time());
    }

    private int applyErasure(int row, int column, int time) {
        make(row, column, time, true, 0);
        live.keySet().removeIf(k -> k.row() == row && (column == -1 || k.column() == column && (time == -1 || k.time() == time)));
        return 1;
    }

    private void make(int row, int column, int time, boolean erasure, int value) {
        sequence++;
        tabletOf(row).memtable.add(new Entry(row, column, time, erasure, value, sequence, batches));
    }

    private boolean isTooOld(int column, int time) {
        int a = age[column / 4];
        return !(a == 0 || time + a > clock);
    }

    private List<Map.Entry<Key, Integer>> cells(int row, int column) {
        List<Map.Entry<Key, Integer>> cells = new ArrayList<>();
        for (Map.Entry<Key, Integer> e : live.entrySet()) {
            if (e.getKey().row() == row && e.getKey().column() == column) {
                cells.add(e);
            }
        }
        return cells;
    }

    void tear() {
        torn = true;
    }

    void crash() {
        changes.clear();
        expectation = null;
    }

    int tick(int n) {
        if (in(n, 0, 5000)) {
            clock += n;
            live.keySet().removeIf(k -> isTooOld(k.column(), k.time()));
        }
        return clock;
    }

    long get(int row, int column, int at, int n) {
        if (!in(row, 0, 63) || !in(column, 0, 7)) {
            return -1;
        }
        look(row);
        List<Map.Entry<Key, Integer>> cells = cells(row, column);
        cells.removeIf(e -> e.getKey().time() > at);
        if (!in(n, 0, cells.size() - 1)) {
            return -1;
        }
        return Check.cell(cells.get(n).getKey().time(), cells.get(n).getValue());
    }

    int scan(int low, int high, int column, int from, int to) {
        if (!in(column, -1, 7)) {
            return -1;
        }
        result = new ArrayList<>();
        for (int row = 0; row < 64; row++) {
            if (in(row, low, high)) {
                look(row);
            }
        }
        for (Map.Entry<Key, Integer> e : live.entrySet()) {
            Key k = e.getKey();
            if (in(k.row(), low, high) && in(k.time(), from, to) && (column == -1 || column == k.column())) {
                result.add(Check.cell(k.row(), k.column(), k.time(), e.getValue()));
            }
        }
        return result.size();
    }

    long found(int k) {
        return in(k, 0, result.size() - 1) ? result.get(k) : -1;
    }

    private void look(int row) {
        for (List<Entry> table : tabletOf(row).tables) {
            BitSet filter = new BitSet(64);
            Set<Integer> blocks = new HashSet<>();
            for (int i = 0; i < table.size(); i++) {
                int r = table.get(i).row();
                filter.set((7 * r + 3) % 64);
                filter.set((13 * r + 29) % 64);
                if (r == row) {
                    blocks.add(i / 4);
                }
            }
            if (filter.get((7 * row + 3) % 64) && filter.get((13 * row + 29) % 64)) {
                looked += Math.max(1, blocks.size());
            }
        }
    }

    int looked() {
        return looked;
    }

    private Tablet tabletOf(int row) {
        for (Tablet t : tablets) {
            if (in(row, t.first, t.last)) {
                return t;
            }
        }
        throw new IllegalStateException("no tablet has row " + row);
    }

    private boolean isTablet(int t) {
        return in(t, 0, tablets.size() - 1);
    }

    int flush(int t) {
        if (!isTablet(t)) {
            return -1;
        }
        Tablet x = tablets.get(t);
        List<Entry> table = x.memtable;
        x.memtable = new ArrayList<>();
        if (!table.isEmpty()) {
            table.sort(ORDER);
            x.tables.add(table);
        }
        return table.size();
    }

    int compact(int t, int k) {
        if (!isTablet(t) || k < 2 || k > tablets.get(t).tables.size()) {
            return -1;
        }
        List<List<Entry>> tables = tablets.get(t).tables;
        List<Entry> all = new ArrayList<>();
        for (int i = 0; i < k; i++) {
            all.addAll(tables.remove(tables.size() - 1));
        }
        List<Entry> left = new ArrayList<>();
        for (Entry e : all) {
            boolean isCovered = all.stream().anyMatch(o -> o.covers(e));
            if (!isCovered && (e.erasure() || !isTooOld(e.column(), e.time()))) {
                left.add(e);
            }
        }
        addTable(tables, left);
        return left.size();
    }

    private static void addTable(List<List<Entry>> tables, List<Entry> entries) {
        if (!entries.isEmpty()) {
            entries.sort(ORDER);
            tables.add(entries);
        }
    }

    int major(int t) {
        if (!isTablet(t)) {
            return -1;
        }
        flush(t);
        List<List<Entry>> tables = tablets.get(t).tables;
        // The live cell of a place is the one with the highest sequence there.
        Map<Key, Entry> latest = new TreeMap<>();
        for (List<Entry> table : tables) {
            for (Entry e : table) {
                Key k = new Key(e.row(), e.column(), e.time());
                if (!e.erasure() && live.containsKey(k) && (latest.get(k) == null || latest.get(k).sequence() < e.sequence())) {
                    latest.put(k, e);
                }
            }
        }
        tables.clear();
        addTable(tables, new ArrayList<>(latest.values()));
        return latest.size();
    }

    boolean split(int t, int row) {
        if (!isTablet(t) || tablets.size() == 8) {
            return false;
        }
        Tablet x = tablets.get(t);
        if (!in(row, x.first + 1, x.last)) {
            return false;
        }
        tablets.set(t, part(x, x.first, row - 1));
        tablets.add(t + 1, part(x, row, x.last));
        return true;
    }

    private static Tablet part(Tablet x, int first, int last) {
        Tablet p = new Tablet();
        p.first = first;
        p.last = last;
        p.memtable = within(x.memtable, first, last);
        for (List<Entry> table : x.tables) {
            addTable(p.tables, within(table, first, last));
        }
        return p;
    }

    private static List<Entry> within(List<Entry> entries, int first, int last) {
        List<Entry> some = new ArrayList<>(entries);
        some.removeIf(e -> !in(e.row(), first, last));
        return some;
    }

    boolean join(int t) {
        if (!isTablet(t) || t + 1 == tablets.size()) {
            return false;
        }
        Tablet behind = tablets.remove(t + 1);
        Tablet x = tablets.get(t);
        x.last = behind.last;
        x.memtable.addAll(behind.memtable);
        x.tables.addAll(behind.tables);
        return true;
    }

    int tablet(int t, int what) {
        if (!isTablet(t) || !in(what, 0, 3)) {
            return -1;
        }
        Tablet x = tablets.get(t);
        return new int[] {x.first, x.last, x.tables.size(), x.memtable.size()}[what];
    }

    int table(int t, int k, int what) {
        if (!isTablet(t) || !in(k, 0, tablets.get(t).tables.size() - 1) || !in(what, 0, 3)) {
            return -1;
        }
        List<Entry> table = tablets.get(t).tables.get(k);
        int erasures = (int) table.stream().filter(Entry::erasure).count();
        return new int[] {table.size(), erasures, (table.size() + 3) / 4, table.get(0).row()}[what];
    }

    int log() {
        Set<Integer> some = new HashSet<>();
        for (Tablet t : tablets) {
            for (Entry e : t.memtable) {
                some.add(e.batch());
            }
        }
        return some.size();
    }

    /** Whether the entries alone, by what covers what, tell the same cells as the map. */
    boolean isOfOnePiece() {
        List<Entry> all = new ArrayList<>();
        for (Tablet t : tablets) {
            all.addAll(t.memtable);
            t.tables.forEach(all::addAll);
        }
        Map<Key, Integer> told = new TreeMap<>();
        for (Entry e : all) {
            if (!e.erasure() && !isTooOld(e.column(), e.time()) && all.stream().noneMatch(o -> o.covers(e))) {
                told.put(new Key(e.row(), e.column(), e.time()), e.value());
            }
        }
        return told.equals(live);
    }
}
