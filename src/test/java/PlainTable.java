import java.util.ArrayList;
import java.util.List;
import java.util.TreeSet;

/**
 * The document once more, written apart from the program: it tries all keys and sorts where the
 * program reckons, and keeps the wide index as a list of values of its own.
 */
public final class PlainTable {
    private static final int ATTACHED = 0;
    private static final int DETACHED = 1;
    private static final int GONE = 2;

    private record Place(int part, int leaf) {}

    private final List<int[]> ranges = new ArrayList<>();
    private final List<int[]> kinds = new ArrayList<>();
    private final List<Integer> states = new ArrayList<>();
    private final List<int[]> rowList = new ArrayList<>();
    private final List<Integer> homes = new ArrayList<>();
    private List<Integer> wideIndex = new ArrayList<>();

    public PlainTable() {
        ranges.add(null);
        kinds.add(new int[] {0, 0});
        states.add(ATTACHED);
    }

    public int makePart(int from, int to, int kind, int detail) {
        argument(isPart(from, to, kind, detail));
        state(parts() < 15 && isFree(from, to) && restKeysIn(from, to) == 0);
        return add(from, to, kind, detail);
    }

    public int carveOut(int from, int to, int kind, int detail) {
        argument(isPart(from, to, kind, detail));
        state(parts() < 15 && isFree(from, to));
        int carved = restKeysIn(from, to);
        int part = add(from, to, kind, detail);
        rehome(0, part, from, to);
        return carved;
    }

    public int split(int part, int at) {
        number(isRanged(part));
        int[] range = ranges.get(part);
        argument(at > range[0] && at < range[1]);
        state(parts() < 15 && states.get(part) == ATTACHED);
        int upper = add(at, range[1], kinds.get(part)[0], kinds.get(part)[1]);
        ranges.set(part, new int[] {range[0], at});
        rehome(part, upper, at, 1000);
        return upper;
    }

    public int merge(int part, int other) {
        number(isRanged(part) && isRanged(other));
        state(states.get(part) == ATTACHED && states.get(other) == ATTACHED);
        state(ranges.get(part)[1] == ranges.get(other)[0]);
        state(java.util.Arrays.equals(kinds.get(part), kinds.get(other)));
        ranges.set(part, new int[] {ranges.get(part)[0], ranges.get(other)[1]});
        rehome(other, part, 0, 1000);
        states.set(other, GONE);
        return rowsAt(part).size();
    }

    public int detach(int part) {
        number(isRanged(part));
        state(states.get(part) == ATTACHED);
        states.set(part, DETACHED);
        wideIndex = null;
        return rowsAt(part).size();
    }

    public int attach(int part) {
        number(isRanged(part));
        state(states.get(part) == DETACHED);
        int[] range = ranges.get(part);
        state(isFree(range[0], range[1]) && restKeysIn(range[0], range[1]) == 0);
        states.set(part, ATTACHED);
        wideIndex = null;
        return rowsAt(part).size();
    }

    public int exchange(int part, int other) {
        number(isRanged(part) && isRanged(other));
        state(states.get(part) == ATTACHED && states.get(other) == DETACHED);
        List<Integer> leaving = rowsAt(part);
        List<Integer> coming = rowsAt(other);
        state(allIn(leaving, other) && allIn(coming, part));
        leaving.forEach(row -> homes.set(row, other));
        coming.forEach(row -> homes.set(row, part));
        wideIndex = null;
        return coming.size();
    }

    public int insert(int key, int sort, int value) {
        argument(isKey(key) && isSort(sort) && isValue(value));
        state(rowList.size() < 200);
        rowList.add(new int[] {key, sort, value});
        homes.add(partOf(key));
        if (wideIndex != null) {
            wideIndex.add(value);
        }
        return rowList.size() - 1;
    }

    public boolean change(int row, int key, int sort) {
        number(isRow(row));
        argument(isKey(key) && isSort(sort));
        state(states.get(homes.get(row)) == ATTACHED);
        Place before = placeOf(row);
        rowList.set(row, new int[] {key, sort, rowList.get(row)[2]});
        homes.set(row, partOf(key));
        return !before.equals(placeOf(row));
    }

    public int remove(int row) {
        number(isRow(row));
        Integer value = rowList.get(row)[2];
        if (wideIndex != null && states.get(homes.get(row)) == ATTACHED) {
            wideIndex.remove(value);
        }
        homes.set(row, null);
        return value;
    }

    public int parts() {
        return states.size() - 1;
    }

    public int stateOf(int part) {
        number(part >= 0 && part <= parts());
        return states.get(part);
    }

    public int partOf(int key) {
        argument(isKey(key));
        for (int part = 1; part <= parts(); part++) {
            if (states.get(part) == ATTACHED && inRange(key, part)) {
                return part;
            }
        }
        return 0;
    }

    public int leafOf(int row) {
        number(isRow(row));
        Place place = placeOf(row);
        return 10 * place.part() + place.leaf();
    }

    public int rowsIn(int part, int leaf) {
        number(isLeaf(part, leaf));
        int found = 0;
        for (int row : rowsAt(part)) {
            found += placeOf(row).leaf() == leaf ? 1 : 0;
        }
        return found;
    }

    public int rows() {
        return tableRows().size();
    }

    public int count(int low, int high, int sorts) {
        argument(isQuestion(low, high, sorts));
        TreeSet<Integer> leaves = leavesFor(low, high, sorts);
        int found = 0;
        for (int row : tableRows()) {
            found += leaves.contains(leafOf(row)) && isAsked(row, low, high, sorts) ? 1 : 0;
        }
        return found;
    }

    public int countPlain(int low, int high, int sorts) {
        argument(isQuestion(low, high, sorts));
        int found = 0;
        for (int row : tableRows()) {
            found += isAsked(row, low, high, sorts) ? 1 : 0;
        }
        return found;
    }

    public int read(int low, int high, int sorts) {
        argument(isQuestion(low, high, sorts));
        return leavesFor(low, high, sorts).size();
    }

    public boolean matters(int part, int leaf, int low, int high, int sorts) {
        number(isLeaf(part, leaf));
        argument(isQuestion(low, high, sorts));
        return leavesFor(low, high, sorts).contains(10 * part + leaf);
    }

    public boolean isStale() {
        return wideIndex == null;
    }

    public int buildIndex() {
        wideIndex = new ArrayList<>();
        tableRows().forEach(row -> wideIndex.add(rowList.get(row)[2]));
        return wideIndex.size();
    }

    public int find(int value) {
        argument(isValue(value));
        state(wideIndex != null);
        return java.util.Collections.frequency(wideIndex, value);
    }

    public int findIn(int part, int value) {
        number(isLeaf(part, 0));
        argument(isValue(value));
        int found = 0;
        for (int row : rowsAt(part)) {
            found += rowList.get(row)[2] == value ? 1 : 0;
        }
        return found;
    }

    private static void number(boolean holds) {
        if (!holds) {
            throw new IndexOutOfBoundsException();
        }
    }

    private static void argument(boolean holds) {
        if (!holds) {
            throw new IllegalArgumentException();
        }
    }

    private static void state(boolean holds) {
        if (!holds) {
            throw new IllegalStateException();
        }
    }

    private static boolean isKey(int key) {
        return key >= 0 && key <= 999;
    }

    private static boolean isSort(int sort) {
        return sort >= 0 && sort <= 9;
    }

    private static boolean isValue(int value) {
        return value >= 0 && value <= 99;
    }

    private static boolean isQuestion(int low, int high, int sorts) {
        return isKey(low) && isKey(high) && low <= high && sorts >= 0 && sorts <= 1023;
    }

    private static boolean isPart(int from, int to, int kind, int detail) {
        boolean fits = kind == 0 && detail == 0
            || kind == 1 && detail >= 1 && detail <= 1022
            || kind == 2 && detail >= 1 && detail <= 5;
        return isKey(from) && to > from && to <= 1000 && fits;
    }

    private boolean isRanged(int part) {
        return part >= 1 && part <= parts() && states.get(part) != GONE;
    }

    private boolean isLeaf(int part, int leaf) {
        if (part != 0 && !isRanged(part)) {
            return false;
        }
        int[] kind = kinds.get(part);
        int leaves = kind[0] == 0 ? 1 : kind[0] == 1 ? 2 : kind[1];
        return leaf >= 0 && leaf < leaves;
    }

    private boolean isRow(int row) {
        return row >= 0 && row < rowList.size() && homes.get(row) != null;
    }

    private boolean inRange(int key, int part) {
        return key >= ranges.get(part)[0] && key < ranges.get(part)[1];
    }

    private boolean isFree(int from, int to) {
        for (int key = from; key < to; key++) {
            if (partOf(key) != 0) {
                return false;
            }
        }
        return true;
    }

    private int restKeysIn(int from, int to) {
        int found = 0;
        for (int row : rowsAt(0)) {
            int key = rowList.get(row)[0];
            found += key >= from && key < to ? 1 : 0;
        }
        return found;
    }

    private boolean allIn(List<Integer> rows, int part) {
        return rows.stream().allMatch(row -> inRange(rowList.get(row)[0], part));
    }

    private int add(int from, int to, int kind, int detail) {
        ranges.add(new int[] {from, to});
        kinds.add(new int[] {kind, detail});
        states.add(ATTACHED);
        return parts();
    }

    private void rehome(int source, int target, int from, int to) {
        for (int row : rowsAt(source)) {
            int key = rowList.get(row)[0];
            if (key >= from && key < to) {
                homes.set(row, target);
            }
        }
    }

    private List<Integer> rowsAt(int part) {
        List<Integer> found = new ArrayList<>();
        for (int row = 0; row < rowList.size(); row++) {
            if (isRow(row) && homes.get(row) == part) {
                found.add(row);
            }
        }
        return found;
    }

    private List<Integer> tableRows() {
        List<Integer> found = new ArrayList<>();
        for (int part = 0; part <= parts(); part++) {
            if (states.get(part) == ATTACHED) {
                found.addAll(rowsAt(part));
            }
        }
        return found;
    }

    private boolean isAsked(int row, int low, int high, int sorts) {
        int[] asked = rowList.get(row);
        return asked[0] >= low && asked[0] <= high && (sorts & (1 << asked[1])) != 0;
    }

    private Place placeOf(int row) {
        return placeFor(homes.get(row), rowList.get(row)[0], rowList.get(row)[1]);
    }

    private Place placeFor(int part, int key, int sort) {
        int[] kind = kinds.get(part);
        if (kind[0] == 1) {
            return new Place(part, (kind[1] & (1 << sort)) != 0 ? 0 : 1);
        }
        return new Place(part, kind[0] == 2 ? (7 * key + 3) % kind[1] : 0);
    }

    private TreeSet<Integer> leavesFor(int low, int high, int sorts) {
        TreeSet<Integer> leaves = new TreeSet<>();
        for (int key = low; key <= high; key++) {
            int part = partOf(key);
            for (int sort = 0; sort < 10; sort++) {
                if ((sorts & (1 << sort)) != 0) {
                    Place place = placeFor(part, key, sort);
                    leaves.add(10 * place.part() + place.leaf());
                }
            }
        }
        return leaves;
    }
}
