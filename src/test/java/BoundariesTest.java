/**
 * The least and the greatest of each range, tables, parts and leaves without rows, and full tables,
 * promise by promise. What lies just outside is refused: RefusalsTest has those calls.
 */
public final class BoundariesTest {
    private static final Checks CHECKS = new Checks("BoundariesTest");
    private static final int ALL = 1023;

    private interface Making {
        int make(ParcelledTable t, int from, int to, int kind, int detail);
    }

    private interface Asking {
        int ask(ParcelledTable t, int low, int high, int sorts);
    }

    public static void main(String[] args) {
        newTable();
        newTablesAreApart();
        making("2 makePart", ParcelledTable::makePart, 1);
        making("3 carveOut", ParcelledTable::carveOut, 0);
        makePartBesideRows();
        makePartNumbers();
        partsWithoutRows();
        carveOutRows();
        carveOutLeavesOthers();
        splitEnds();
        splitRows();
        splitLeavesOthers();
        splitKinds();
        mergeRows();
        mergeRanges();
        mergeFreesNoNumber();
        detach();
        attachBesideParts();
        attachBesideRows();
        exchangeEnds();
        exchangeWithoutRows();
        insertEnds();
        changeEnds();
        changeLeaves();
        removeEnds();
        fullOfParts();
        fullOfPartsInThreeWays();
        fullOfRows();
        questions("18 count", ParcelledTable::count);
        questions("19 countPlain", ParcelledTable::countPlain);
        countsOfManyRows("18 count", ParcelledTable::count);
        countsOfManyRows("19 countPlain", ParcelledTable::countPlain);
        read();
        buildIndex();
        find();
        findIn();
        CHECKS.end();
    }

    // ---- 1

    private static void newTable() {
        ParcelledTable t = new ParcelledTable();
        CHECKS.due("1 parts", 0, t::parts);
        CHECKS.due("1 rows", 0, t::rows);
        CHECKS.due("1 the rest", 0, () -> t.stateOf(0));
        CHECKS.badNumber("1 no other part", () -> t.stateOf(1));
        CHECKS.due("1 the rest's leaf", 0, () -> t.rowsIn(0, 0));
        CHECKS.badNumber("1 no other leaf", () -> t.rowsIn(0, 1));
        CHECKS.badNumber("1 no row", () -> t.leafOf(0));
        CHECKS.no("1 not stale", t::isStale);
        for (int value = 0; value < 100; value++) {
            int asked = value;
            CHECKS.due("1 find " + value, 0, () -> t.find(asked));
            CHECKS.due("1 findIn " + value, 0, () -> t.findIn(0, asked));
        }
        CHECKS.due("1 index without rows", 0, t::buildIndex);
        CHECKS.no("1 not stale behind it", t::isStale);
        CHECKS.due("1 the first row", 0, () -> t.insert(0, 0, 0));
        CHECKS.due("1 the first part", 1, () -> t.makePart(1, 2, 0, 0));
        for (int first = 0; first < 1000; first += 500) {
            ParcelledTable other = new ParcelledTable();
            for (int key = first; key < first + 500; key++) {
                int asked = key;
                CHECKS.due("1 partOf " + key, 0, () -> other.partOf(asked));
            }
        }
    }

    private static void newTablesAreApart() {
        ParcelledTable one = new ParcelledTable();
        one.makePart(0, 1000, 2, 5);
        one.insert(0, 0, 0);
        one.detach(1);
        ParcelledTable other = new ParcelledTable();
        CHECKS.due("1 no parts of another table", 0, other::parts);
        CHECKS.due("1 no rows of another table", 0, () -> other.findIn(0, 0));
        CHECKS.no("1 no index of another table", other::isStale);
        CHECKS.due("1 rows of its own", 0, () -> other.insert(0, 0, 0));
        CHECKS.due("1 which the other one has not", 0, one::rows);
    }

    // ---- 2, 3

    private static void making(String name, Making making, int answer) {
        int[][] ranges = {{0, 1}, {0, 2}, {0, 1000}, {1, 2}, {1, 1000}, {500, 501}, {998, 999}, {998, 1000}, {999, 1000}};
        for (int[] range : ranges) {
            ParcelledTable t = new ParcelledTable();
            String what = name + " " + range[0] + " to " + range[1];
            CHECKS.due(what, answer, () -> making.make(t, range[0], range[1], 0, 0));
            endsOf(what, t, 1, range[0], range[1]);
            CHECKS.due(what + " is one part", 1, t::parts);
            CHECKS.due(what + " is attached", 0, () -> t.stateOf(1));
            CHECKS.due(what + " has no rows", 0, () -> t.rowsIn(1, 0));
            CHECKS.no(what + " leaves the index", t::isStale);
        }
        int[][] kinds = {
            {0, 0, 1}, {1, 1, 2}, {1, 2, 2}, {1, 512, 2}, {1, 1021, 2}, {1, 1022, 2},
            {2, 1, 1}, {2, 2, 2}, {2, 3, 3}, {2, 4, 4}, {2, 5, 5},
        };
        for (int[] kind : kinds) {
            ParcelledTable t = new ParcelledTable();
            String what = name + " kind " + kind[0] + ", detail " + kind[1];
            CHECKS.due(what, answer, () -> making.make(t, 0, 1000, kind[0], kind[1]));
            leavesOf(what, t, 1, kind[2]);
        }
        ParcelledTable t = new ParcelledTable();
        making.make(t, 0, 10, 0, 0);
        making.make(t, 20, 1000, 0, 0);
        making.make(t, 10, 20, 0, 0);
        endsOf(name + " between two parts", t, 3, 10, 20);
        t.detach(3);
        making.make(t, 15, 16, 0, 0);
        endsOf(name + " over a detached part", t, 4, 15, 16);
    }

    private static void endsOf(String what, ParcelledTable t, int part, int from, int to) {
        CHECKS.due(what + " has its first key", part, () -> t.partOf(from));
        CHECKS.due(what + " has its last key", part, () -> t.partOf(to - 1));
        if (from > 0) {
            CHECKS.report(what + " begins there", "false", "" + (t.partOf(from - 1) == part));
        }
        if (to < 1000) {
            CHECKS.report(what + " ends there", "false", "" + (t.partOf(to) == part));
        }
    }

    private static void leavesOf(String what, ParcelledTable t, int part, int leaves) {
        CHECKS.badNumber(what + " has no leaf below", () -> t.rowsIn(part, -1));
        for (int leaf = 0; leaf < leaves; leaf++) {
            int asked = leaf;
            CHECKS.due(what + " has the leaf " + leaf, 0, () -> t.rowsIn(part, asked));
            CHECKS.yes(what + " asks the leaf " + leaf, () -> t.matters(part, asked, 0, 999, ALL));
        }
        CHECKS.badNumber(what + " has no leaf behind", () -> t.rowsIn(part, leaves));
        CHECKS.badNumber(what + " asks no leaf behind", () -> t.matters(part, leaves, 0, 999, ALL));
    }

    private static void makePartBesideRows() {
        ParcelledTable t = new ParcelledTable();
        t.makePart(10, 20, 0, 0);
        t.insert(15, 0, 0);
        t.detach(1);
        t.insert(9, 0, 0);
        t.insert(20, 0, 0);
        t.insert(16, 0, 0);
        CHECKS.badState("2 a row of the rest", () -> t.makePart(10, 20, 0, 0));
        t.remove(3);
        CHECKS.due("2 without the row that was removed", 2, () -> t.makePart(10, 20, 0, 0));
        CHECKS.due("2 takes no row of a detached part", 10, () -> t.leafOf(0));
        CHECKS.due("2 has no rows", 0, () -> t.rowsIn(2, 0));
        CHECKS.badState("2 the row below", () -> t.makePart(9, 10, 0, 0));
        t.change(1, 999, 0);
        CHECKS.due("2 without the row that was changed", 3, () -> t.makePart(9, 10, 0, 0));
        CHECKS.badState("2 the row at the last key", () -> t.makePart(998, 1000, 0, 0));
        CHECKS.due("2 up to the row", 4, () -> t.makePart(21, 999, 0, 0));
    }

    private static void makePartNumbers() {
        ParcelledTable t = new ParcelledTable();
        for (int number = 1; number <= 15; number++) {
            int from = 1000 - number;
            CHECKS.due("2 part " + number, number, () -> t.makePart(from, from + 1, 0, 0));
            CHECKS.due("12 parts", number, t::parts);
            CHECKS.due("14 partOf " + from, number, () -> t.partOf(from));
            CHECKS.due("13 stateOf " + number, 0, () -> t.stateOf(t.parts()));
            CHECKS.badNumber("13 behind " + number, () -> t.stateOf(t.parts() + 1));
        }
    }

    private static void partsWithoutRows() {
        int[][] kinds = {{0, 0, 1}, {1, 1, 2}, {1, 1022, 2}, {2, 1, 1}, {2, 5, 5}};
        for (int[] kind : kinds) {
            String what = " without rows, kind " + kind[0] + ", detail " + kind[1];
            ParcelledTable t = new ParcelledTable();
            t.makePart(10, 20, kind[0], kind[1]);
            t.insert(9, 0, 0);
            t.insert(20, 9, 99);
            for (int leaf = 0; leaf < kind[2]; leaf++) {
                int asked = leaf;
                CHECKS.due("16 leaf " + leaf + what, 0, () -> t.rowsIn(1, asked));
                CHECKS.yes("21 leaf " + leaf + what, () -> t.matters(1, asked, 10, 19, ALL));
                CHECKS.no("21 no sort, leaf " + leaf + what, () -> t.matters(1, asked, 10, 19, 0));
            }
            CHECKS.due("25 the least value" + what, 0, () -> t.findIn(1, 0));
            CHECKS.due("25 the greatest value" + what, 0, () -> t.findIn(1, 99));
            CHECKS.due("18" + what, 0, () -> t.count(10, 19, ALL));
            CHECKS.due("19" + what, 0, () -> t.countPlain(10, 19, ALL));
            CHECKS.due("20" + what, kind[2], () -> t.read(10, 19, ALL));
            CHECKS.due("6" + what, 0, () -> t.detach(1));
            CHECKS.due("23" + what, 2, t::buildIndex);
            CHECKS.due("7" + what, 0, () -> t.attach(1));
            CHECKS.due("4" + what, 2, () -> t.split(1, 11));
            CHECKS.due("5" + what, 0, () -> t.merge(1, 2));
            CHECKS.due("17" + what, 2, t::rows);
        }
    }

    private static void carveOutRows() {
        int[][] rangesAndRows = {
            {10, 20, 3}, {11, 20, 2}, {10, 19, 2}, {9, 20, 4}, {10, 21, 4}, {11, 19, 1}, {11, 15, 0},
            {0, 1000, 7}, {0, 1, 1}, {999, 1000, 1}, {1, 999, 5}, {500, 600, 0},
        };
        for (int[] a : rangesAndRows) {
            ParcelledTable t = new ParcelledTable();
            for (int key : new int[] {0, 9, 10, 15, 19, 20, 999}) {
                t.insert(key, 0, 0);
            }
            String what = "3 carveOut " + a[0] + " to " + a[1];
            CHECKS.due(what, a[2], () -> t.carveOut(a[0], a[1], 0, 0));
            CHECKS.due(what + ", its rows", a[2], () -> t.rowsIn(1, 0));
            CHECKS.due(what + ", the rest's rows", 7 - a[2], () -> t.rowsIn(0, 0));
            CHECKS.due(what + ", all rows", 7, t::rows);
            CHECKS.no(what + ", the index", t::isStale);
            CHECKS.due(what + ", all values", 7, () -> t.find(0));
        }
    }

    private static void carveOutLeavesOthers() {
        ParcelledTable t = new ParcelledTable();
        t.makePart(10, 20, 0, 0);
        t.insert(15, 0, 0);
        t.detach(1);
        t.makePart(30, 40, 0, 0);
        t.insert(35, 0, 0);
        t.insert(15, 1, 0);
        t.insert(16, 0, 0);
        t.remove(3);
        CHECKS.due("3 neither detached nor removed rows", 1, () -> t.carveOut(0, 30, 1, 2));
        CHECKS.due("3 the detached row stays", 10, () -> t.leafOf(0));
        CHECKS.due("3 the row of another part stays", 20, () -> t.leafOf(1));
        CHECKS.due("3 the row of the rest comes", 30, () -> t.leafOf(2));
        CHECKS.due("3 no rows in the other leaf", 0, () -> t.rowsIn(3, 1));
    }

    // ---- 4

    private static void splitEnds() {
        int[][] rangesAndKeys = {
            {10, 20, 11}, {10, 20, 19}, {10, 12, 11}, {0, 2, 1}, {0, 1000, 1}, {0, 1000, 999}, {998, 1000, 999},
        };
        for (int[] a : rangesAndKeys) {
            ParcelledTable t = new ParcelledTable();
            t.makePart(a[0], a[1], 0, 0);
            String what = "4 split " + a[0] + " to " + a[1] + " at " + a[2];
            CHECKS.due(what, 2, () -> t.split(1, a[2]));
            endsOf(what + ", the lower part", t, 1, a[0], a[2]);
            endsOf(what + ", the upper part", t, 2, a[2], a[1]);
            CHECKS.due(what + ", two parts", 2, t::parts);
            CHECKS.due(what + ", attached", 0, () -> t.stateOf(2));
            CHECKS.due(what + ", without rows", 0, () -> t.rowsIn(1, 0) + t.rowsIn(2, 0));
            CHECKS.no(what + ", the index", t::isStale);
        }
    }

    private static void splitRows() {
        int[] keys = {10, 14, 15, 19};
        for (int at = 11; at < 20; at++) {
            ParcelledTable t = new ParcelledTable();
            t.makePart(10, 20, 0, 0);
            for (int key : keys) {
                t.insert(key, 0, 0);
            }
            t.split(1, at);
            for (int row = 0; row < keys.length; row++) {
                int asked = row;
                int want = keys[row] < at ? 10 : 20;
                CHECKS.due("4 split at " + at + ", key " + keys[row], want, () -> t.leafOf(asked));
            }
            CHECKS.due("4 split at " + at + ", all rows", 4, t::rows);
        }
    }

    private static void splitLeavesOthers() {
        ParcelledTable t = new ParcelledTable();
        t.makePart(10, 20, 0, 0);
        t.insert(15, 0, 0);
        t.detach(1);
        t.makePart(10, 20, 1, 1);
        t.makePart(20, 30, 0, 0);
        t.insert(15, 0, 0);
        t.insert(25, 0, 0);
        t.insert(30, 0, 0);
        CHECKS.due("4 split beside others", 4, () -> t.split(2, 15));
        CHECKS.due("4 a detached row stays", 10, () -> t.leafOf(0));
        CHECKS.due("4 the row comes", 40, () -> t.leafOf(1));
        CHECKS.due("4 the next part's row stays", 30, () -> t.leafOf(2));
        CHECKS.due("4 the rest's row stays", 0, () -> t.leafOf(3));
        CHECKS.due("4 split of the split one", 5, () -> t.split(4, 16));
        CHECKS.due("4 its row stays", 40, () -> t.leafOf(1));
    }

    private static void splitKinds() {
        int[][] kinds = {{0, 0, 1}, {1, 1, 2}, {1, 1022, 2}, {2, 1, 1}, {2, 5, 5}};
        for (int[] kind : kinds) {
            ParcelledTable t = new ParcelledTable();
            t.makePart(0, 1000, kind[0], kind[1]);
            t.split(1, 500);
            String what = "4 split kind " + kind[0] + ", detail " + kind[1];
            leavesOf(what + ", the lower part", t, 1, kind[2]);
            leavesOf(what + ", the upper part", t, 2, kind[2]);
            t.insert(500, 0, 0);
            int leaf = kind[0] == 1 && kind[1] == 1022 ? 1 : kind[1] == 5 ? 3 : 0;
            CHECKS.due(what + ", a row", 20 + leaf, () -> t.leafOf(0));
        }
    }

    // ---- 5

    private static void mergeRows() {
        int[][] keysAndRows = {{}, {10}, {29}, {10, 19}, {20, 29}, {10, 19, 20, 29}};
        for (int[] keys : keysAndRows) {
            ParcelledTable t = new ParcelledTable();
            t.makePart(10, 20, 0, 0);
            t.makePart(20, 30, 0, 0);
            t.insert(9, 0, 0);
            t.insert(30, 0, 0);
            for (int key : keys) {
                t.insert(key, 0, 0);
            }
            String what = "5 merge of " + java.util.Arrays.toString(keys);
            CHECKS.due(what, keys.length, () -> t.merge(1, 2));
            CHECKS.due(what + ", its rows", keys.length, () -> t.rowsIn(1, 0));
            CHECKS.due(what + ", all rows", keys.length + 2, t::rows);
            CHECKS.due(what + ", the rest's rows", 2, () -> t.rowsIn(0, 0));
            CHECKS.due(what + ", gone", 2, () -> t.stateOf(2));
            CHECKS.no(what + ", the index", t::isStale);
            endsOf(what, t, 1, 10, 30);
        }
    }

    private static void mergeRanges() {
        ParcelledTable t = new ParcelledTable();
        t.makePart(999, 1000, 2, 5);
        t.makePart(0, 1, 2, 5);
        t.makePart(1, 999, 2, 5);
        t.insert(999, 0, 0);
        t.insert(0, 0, 0);
        CHECKS.due("5 up to the last key", 1, () -> t.merge(3, 1));
        endsOf("5 up to the last key", t, 3, 1, 1000);
        CHECKS.due("5 from the first key", 2, () -> t.merge(2, 3));
        endsOf("5 from the first key", t, 2, 0, 1000);
        CHECKS.due("5 the last key's leaf", 21, () -> t.leafOf(0));
        CHECKS.due("5 the first key's leaf", 23, () -> t.leafOf(1));
        CHECKS.due("5 split again", 4, () -> t.split(2, 999));
        CHECKS.due("5 a row of the split", 41, () -> t.leafOf(0));
    }

    private static void mergeFreesNoNumber() {
        ParcelledTable t = new ParcelledTable();
        t.makePart(10, 20, 0, 0);
        t.makePart(20, 30, 0, 0);
        t.merge(1, 2);
        t.detach(1);
        CHECKS.due("5 a gone part has no range", 3, () -> t.makePart(20, 30, 0, 0));
        CHECKS.due("5 it stays gone", 2, () -> t.stateOf(2));
        CHECKS.due("5 it stays made", 3, t::parts);
        CHECKS.badState("5 its range is the other one's", () -> t.attach(1));
    }

    // ---- 6, 7

    private static void detach() {
        ParcelledTable t = new ParcelledTable();
        t.makePart(0, 10, 0, 0);
        t.makePart(10, 1000, 2, 5);
        t.insert(0, 0, 0);
        t.remove(0);
        CHECKS.due("6 without rows", 0, () -> t.detach(1));
        CHECKS.yes("6 stale without rows too", t::isStale);
        t.insert(10, 0, 0);
        t.insert(999, 0, 0);
        t.insert(9, 0, 0);
        CHECKS.due("6 rows in two leaves", 2, () -> t.detach(2));
        CHECKS.due("6 the rest's rows stay", 1, t::rows);
        CHECKS.due("6 its first key", 0, () -> t.partOf(10));
        CHECKS.due("6 its last key", 0, () -> t.partOf(999));
        t.remove(3);
        CHECKS.due("6 no rows in the table", 0, t::rows);
        CHECKS.due("6 a question to it", 0, () -> t.count(0, 999, ALL));
        CHECKS.due("6 one leaf to read", 1, () -> t.read(0, 999, ALL));
        CHECKS.due("6 the rows stay in it", 2, () -> t.findIn(2, 0));
    }

    private static void attachBesideParts() {
        ParcelledTable t = new ParcelledTable();
        t.makePart(10, 20, 0, 0);
        t.detach(1);
        t.makePart(0, 10, 0, 0);
        t.makePart(20, 30, 0, 0);
        t.makePart(15, 16, 0, 0);
        t.detach(4);
        t.buildIndex();
        CHECKS.due("7 between two parts, without rows", 0, () -> t.attach(1));
        endsOf("7 between two parts", t, 1, 10, 20);
        CHECKS.yes("7 stale without rows too", t::isStale);
        t.detach(1);
        for (int[] range : new int[][] {{10, 11}, {19, 20}, {12, 18}, {10, 20}}) {
            t.makePart(range[0], range[1], 0, 0);
            CHECKS.badState("7 over " + range[0] + " to " + range[1], () -> t.attach(1));
            t.detach(t.parts());
            CHECKS.due("7 without it", 0, () -> t.attach(1));
            t.detach(1);
        }
        t.detach(2);
        t.detach(3);
        for (int[] range : new int[][] {{9, 11}, {19, 21}, {0, 1000}}) {
            t.makePart(range[0], range[1], 0, 0);
            CHECKS.badState("7 over " + range[0] + " to " + range[1], () -> t.attach(1));
            t.detach(t.parts());
        }
        t.attach(1);
        CHECKS.badState("7 the widest one over it", () -> t.attach(11));
        t.detach(1);
        CHECKS.due("7 the widest one", 0, () -> t.attach(11));
        endsOf("7 the widest one", t, 11, 0, 1000);
    }

    private static void attachBesideRows() {
        ParcelledTable t = new ParcelledTable();
        t.makePart(10, 20, 0, 0);
        t.insert(10, 0, 0);
        t.insert(19, 0, 0);
        t.detach(1);
        t.makePart(10, 20, 0, 0);
        t.insert(15, 0, 0);
        t.detach(2);
        t.insert(9, 0, 0);
        t.insert(20, 0, 0);
        CHECKS.due("7 beside rows of the rest", 2, () -> t.attach(1));
        CHECKS.due("7 its rows come", 4, t::rows);
        CHECKS.due("7 the other one's row stays", 20, () -> t.leafOf(2));
        t.detach(1);
        t.change(3, 10, 0);
        CHECKS.badState("7 a row of the rest at the first key", () -> t.attach(1));
        t.change(3, 19, 0);
        CHECKS.badState("7 a row of the rest at the last key", () -> t.attach(1));
        t.remove(3);
        CHECKS.due("7 without the row", 2, () -> t.attach(1));
        CHECKS.due("7 the row above stays", 0, () -> t.leafOf(4));
    }

    // ---- 8

    private static void exchangeEnds() {
        ParcelledTable t = new ParcelledTable();
        t.makePart(0, 30, 1, 1);
        t.insert(10, 0, 1);
        t.insert(19, 1, 2);
        t.detach(1);
        t.makePart(10, 20, 2, 5);
        t.insert(5, 0, 3);
        t.insert(14, 0, 4);
        t.buildIndex();
        CHECKS.due("8 rows at both ends", 2, () -> t.exchange(2, 1));
        CHECKS.yes("8 stale", t::isStale);
        CHECKS.due("8 the row at the first key", 23, () -> t.leafOf(0));
        CHECKS.due("8 the row at the last key", 21, () -> t.leafOf(1));
        CHECKS.due("8 the rest's row", 0, () -> t.leafOf(2));
        CHECKS.due("8 the row that went", 10, () -> t.leafOf(3));
        CHECKS.due("8 the table's rows", 3, t::rows);
        CHECKS.due("8 the part's own index", 1, () -> t.findIn(2, 2));
        CHECKS.due("8 the other one's index", 1, () -> t.findIn(1, 4));
        t.remove(3);
        CHECKS.due("8 against one without rows", 0, () -> t.exchange(2, 1));
        CHECKS.due("8 both rows went", 11, () -> t.leafOf(1));
        CHECKS.due("8 against one with rows", 2, () -> t.exchange(2, 1));
        CHECKS.due("8 kinds stay", 0, () -> t.rowsIn(2, 4));
        CHECKS.badNumber("8 kinds stay, detached", () -> t.rowsIn(1, 2));
        CHECKS.due("8 the states stay", 1, () -> t.stateOf(1) + 10 * t.stateOf(2));
        endsOf("8 the range stays", t, 2, 10, 20);
    }

    private static void exchangeWithoutRows() {
        ParcelledTable t = new ParcelledTable();
        t.makePart(0, 1, 0, 0);
        t.makePart(999, 1000, 2, 5);
        t.detach(1);
        t.insert(0, 0, 0);
        t.buildIndex();
        CHECKS.due("8 both without rows", 0, () -> t.exchange(2, 1));
        CHECKS.yes("8 stale without rows too", t::isStale);
        CHECKS.due("8 the rest's row stays", 0, () -> t.leafOf(0));
        t.buildIndex();
        t.insert(999, 0, 0);
        CHECKS.badState("8 a row that can not go", () -> t.exchange(2, 1));
        CHECKS.no("8 not stale when refused", t::isStale);
    }

    // ---- 9, 10, 11

    private static void insertEnds() {
        int[][] rows = {{0, 0, 0}, {999, 0, 0}, {0, 9, 0}, {0, 0, 99}, {999, 9, 99}};
        for (int[] row : rows) {
            ParcelledTable t = new ParcelledTable();
            t.makePart(0, 1000, 1, 1);
            String what = "9 insert " + row[0] + ", " + row[1] + ", " + row[2];
            CHECKS.due(what, 0, () -> t.insert(row[0], row[1], row[2]));
            CHECKS.due(what + ", the next one", 1, () -> t.insert(row[0], row[1], row[2]));
            CHECKS.due(what + ", its key and sort", 2, () -> t.countPlain(row[0], row[0], 1 << row[1]));
            CHECKS.due(what + ", its value", 2, () -> t.find(row[2]));
            CHECKS.due(what + ", its leaf", row[1] == 0 ? 10 : 11, () -> t.leafOf(0));
            CHECKS.no(what + ", the index", t::isStale);
        }
    }

    private static void changeEnds() {
        ParcelledTable t = new ParcelledTable();
        for (int row = 0; row < 200; row++) {
            t.insert(500, 5, 50);
        }
        for (int row : new int[] {0, 199}) {
            int[][] changes = {{0, 0}, {999, 9}, {0, 9}, {999, 0}};
            for (int[] to : changes) {
                String what = "10 change " + row + " to " + to[0] + ", " + to[1];
                CHECKS.no(what, () -> t.change(row, to[0], to[1]));
                CHECKS.due(what + ", its key and sort", 1, () -> t.countPlain(to[0], to[0], 1 << to[1]));
                CHECKS.due(what + ", all rows", 200, t::rows);
                CHECKS.due(what + ", its value", 200, () -> t.find(50));
            }
            t.change(row, 500, 5);
        }
        CHECKS.badNumber("10 behind the last row", () -> t.change(200, 0, 0));
        CHECKS.no("10 the index", t::isStale);
    }

    private static void changeLeaves() {
        ParcelledTable t = new ParcelledTable();
        t.makePart(0, 10, 0, 0);
        t.makePart(10, 20, 0, 0);
        t.makePart(20, 30, 1, 512);
        t.makePart(30, 40, 2, 2);
        t.makePart(40, 50, 0, 0);
        t.detach(5);
        t.insert(0, 0, 7);
        // Each row: key, sort, whether it lies in another leaf then, and where it lies.
        int[][] changes = {
            {0, 0, 0, 10}, {9, 9, 0, 10}, {10, 9, 1, 20}, {9, 9, 1, 10}, {19, 0, 1, 20}, {20, 0, 1, 31},
            {29, 8, 0, 31}, {29, 9, 1, 30}, {20, 9, 0, 30}, {30, 9, 1, 41}, {30, 9, 0, 41}, {32, 0, 0, 41},
            {31, 0, 1, 40}, {39, 0, 0, 40}, {40, 0, 1, 0}, {999, 9, 0, 0}, {45, 0, 0, 0}, {0, 0, 1, 10},
        };
        for (int[] a : changes) {
            String what = "10 change to " + a[0] + ", " + a[1];
            CHECKS.due(what, a[2], () -> t.change(0, a[0], a[1]) ? 1 : 0);
            CHECKS.due(what + ", its leaf", a[3], () -> t.leafOf(0));
            CHECKS.due(what + ", its part's index", 1, () -> t.findIn(a[3] / 10, 7));
        }
    }

    private static void removeEnds() {
        ParcelledTable t = new ParcelledTable();
        t.makePart(0, 10, 0, 0);
        for (int row = 0; row < 200; row++) {
            t.insert(row == 0 || row == 199 ? 0 : 500, 0, row % 100);
        }
        CHECKS.due("11 the first row", 0, () -> t.remove(0));
        CHECKS.badNumber("11 the first row twice", () -> t.remove(0));
        t.detach(1);
        CHECKS.due("11 the last row, detached", 99, () -> t.remove(199));
        CHECKS.badNumber("11 the last row twice", () -> t.remove(199));
        CHECKS.due("11 the part has no rows", 0, () -> t.rowsIn(1, 0));
        CHECKS.due("11 and attaches none", 0, () -> t.attach(1));
        for (int row = 1; row < 199; row++) {
            int removed = row;
            CHECKS.due("11 row " + row, row % 100, () -> t.remove(removed));
        }
        CHECKS.due("11 no rows", 0, t::rows);
        CHECKS.due("11 no rows of a question", 0, () -> t.count(0, 999, ALL));
        CHECKS.due("11 no rows in the index", 0, t::buildIndex);
        CHECKS.due("11 no rows in the rest", 0, () -> t.rowsIn(0, 0));
        CHECKS.badState("11 numbers are not given again", () -> t.insert(0, 0, 0));
    }

    // ---- the 15th part, the 200th row

    private static void fullOfParts() {
        ParcelledTable t = new ParcelledTable();
        for (int part = 1; part <= 15; part++) {
            t.makePart(part * 20, part * 20 + 20, 2, 5);
        }
        CHECKS.due("2 fifteen parts", 15, t::parts);
        CHECKS.badState("2 the 16th part", () -> t.makePart(0, 1, 0, 0));
        CHECKS.badState("3 the 16th part", () -> t.carveOut(0, 1, 0, 0));
        CHECKS.badState("4 the 16th part", () -> t.split(15, 310));
        CHECKS.due("13 the 15th part", 0, () -> t.stateOf(15));
        CHECKS.badNumber("13 the 16th part", () -> t.stateOf(16));
        // 7 * 303 + 3 is 2124.
        t.insert(303, 0, 99);
        CHECKS.due("15 the last leaf of the last part", 154, () -> t.leafOf(0));
        CHECKS.due("16 its rows", 1, () -> t.rowsIn(15, 4));
        CHECKS.badNumber("16 no leaf behind it", () -> t.rowsIn(15, 5));
        CHECKS.due("25 its index", 1, () -> t.findIn(15, 99));
        CHECKS.due("20 all leaves", 76, () -> t.read(0, 999, ALL));
        CHECKS.due("20 all leaves but the rest", 75, () -> t.read(20, 319, ALL));
        CHECKS.yes("21 the last leaf", () -> t.matters(15, 4, 303, 303, 1));
        CHECKS.due("5 of the last two", 1, () -> t.merge(14, 15));
        CHECKS.badState("2 the 16th part, one gone", () -> t.makePart(0, 1, 0, 0));
        CHECKS.due("6 the 14th", 1, () -> t.detach(14));
        CHECKS.badState("3 the 16th part, one detached", () -> t.carveOut(0, 1, 0, 0));
        CHECKS.due("7 the 14th", 1, () -> t.attach(14));
        CHECKS.due("12 still fifteen", 15, t::parts);
    }

    private static void fullOfPartsInThreeWays() {
        ParcelledTable t = new ParcelledTable();
        t.makePart(0, 100, 0, 0);
        for (int part = 2; part <= 13; part++) {
            int at = 100 - part;
            int number = part;
            CHECKS.due("4 part " + part, number, () -> t.split(1, at));
        }
        CHECKS.due("3 the 14th part", 0, () -> t.carveOut(100, 200, 0, 0));
        CHECKS.due("12 fourteen", 14, t::parts);
        CHECKS.due("4 the 15th part", 15, () -> t.split(14, 150));
        CHECKS.badState("4 the 16th part", () -> t.split(14, 120));
        endsOf("4 refused, the part", t, 14, 100, 150);
        CHECKS.badState("3 the 16th part", () -> t.carveOut(200, 300, 0, 0));

        ParcelledTable other = new ParcelledTable();
        for (int part = 1; part <= 15; part++) {
            int from = part;
            other.insert(from, 0, 0);
            CHECKS.due("3 part " + part, 1, () -> other.carveOut(from, from + 1, 0, 0));
        }
        other.insert(16, 0, 0);
        CHECKS.badState("3 the 16th part with a row", () -> other.carveOut(16, 17, 0, 0));
        CHECKS.due("3 refused, the row", 0, () -> other.leafOf(15));
    }

    private static void fullOfRows() {
        ParcelledTable t = new ParcelledTable();
        for (int row = 0; row < 200; row++) {
            int number = row;
            CHECKS.due("9 row " + row, number, () -> t.insert(number, number % 10, 0));
        }
        CHECKS.badState("9 the 201st row", () -> t.insert(0, 0, 0));
        CHECKS.due("17 two hundred", 200, t::rows);
        CHECKS.due("16 in the rest", 200, () -> t.rowsIn(0, 0));
        CHECKS.due("24 of one value", 200, () -> t.find(0));
        CHECKS.due("25 of one value", 200, () -> t.findIn(0, 0));
        CHECKS.due("23 in the index", 200, t::buildIndex);
        CHECKS.due("15 the 200th row", 0, () -> t.leafOf(199));
        CHECKS.badNumber("15 the 201st row", () -> t.leafOf(200));
        CHECKS.due("3 all rows", 200, () -> t.carveOut(0, 1000, 0, 0));
        CHECKS.due("15 the 200th row moved", 10, () -> t.leafOf(199));
        CHECKS.due("4 splits them", 2, () -> t.split(1, 199));
        CHECKS.due("4 the 200th row moved", 20, () -> t.leafOf(199));
        CHECKS.due("5 merges them", 200, () -> t.merge(1, 2));
        CHECKS.due("6 all rows", 200, () -> t.detach(1));
        CHECKS.due("17 none left", 0, t::rows);
        CHECKS.due("2 an empty part", 3, () -> t.makePart(0, 1000, 0, 0));
        CHECKS.due("8 all rows", 200, () -> t.exchange(3, 1));
        CHECKS.due("8 all rows back", 0, () -> t.exchange(3, 1));
        t.detach(3);
        CHECKS.due("7 all rows", 200, () -> t.attach(1));
        t.remove(199);
        CHECKS.badState("9 the 201st row, one removed", () -> t.insert(0, 0, 0));
        CHECKS.due("17 all but one", 199, t::rows);
    }

    // ---- 18, 19

    private static void questions(String name, Asking asking) {
        ParcelledTable empty = new ParcelledTable();
        CHECKS.due(name + " without rows", 0, () -> asking.ask(empty, 0, 999, ALL));
        // Each question, and how many of the rows at 0, 10, 19, 20 and 999 with the sorts 0 and 9 fit it.
        int[][] asked = {
            {0, 999, ALL, 10}, {0, 999, 0, 0}, {0, 999, 1, 5}, {0, 999, 512, 5}, {0, 999, 510, 0},
            {0, 0, ALL, 2}, {0, 0, 0, 0}, {999, 999, ALL, 2}, {999, 999, 512, 1}, {1, 998, ALL, 6},
            {10, 19, ALL, 4}, {11, 19, ALL, 2}, {10, 18, ALL, 2}, {11, 18, ALL, 0}, {9, 20, ALL, 6},
            {9, 9, ALL, 0}, {10, 10, 1, 1}, {10, 10, 2, 0}, {19, 20, 513, 4}, {20, 999, 511, 2},
        };
        int[][] kinds = {{0, 0}, {1, 1}, {1, 512}, {1, 2}, {2, 1}, {2, 5}};
        for (int[] kind : kinds) {
            ParcelledTable t = fiveKeys(kind[0], kind[1]);
            for (int[] q : asked) {
                String what = name + " " + q[0] + ", " + q[1] + ", " + q[2] + " by kind " + kind[0] + ", " + kind[1];
                CHECKS.due(what, q[3], () -> asking.ask(t, q[0], q[1], q[2]));
            }
            t.detach(1);
            CHECKS.due(name + " without a detached part", 6, () -> asking.ask(t, 0, 999, ALL));
            CHECKS.due(name + " of keys of a detached part", 0, () -> asking.ask(t, 10, 19, ALL));
        }
    }

    private static ParcelledTable fiveKeys(int kind, int detail) {
        ParcelledTable t = new ParcelledTable();
        t.makePart(10, 20, kind, detail);
        for (int key : new int[] {0, 10, 19, 20, 999}) {
            t.insert(key, 0, 0);
            t.insert(key, 9, 0);
        }
        return t;
    }

    private static void countsOfManyRows(String name, Asking asking) {
        ParcelledTable t = new ParcelledTable();
        t.makePart(0, 500, 1, 31);
        for (int row = 0; row < 200; row++) {
            t.insert(row * 5, row % 10, 0);
        }
        CHECKS.due(name + " of 200 rows", 200, () -> asking.ask(t, 0, 999, ALL));
        CHECKS.due(name + " up to the last of them", 200, () -> asking.ask(t, 0, 995, ALL));
        CHECKS.due(name + " short of the last of them", 199, () -> asking.ask(t, 0, 994, ALL));
        for (int sort = 0; sort < 10; sort++) {
            int sorts = 1 << sort;
            CHECKS.due(name + " of sort " + sort, 20, () -> asking.ask(t, 0, 999, sorts));
            CHECKS.due(name + " of all but sort " + sort, 180, () -> asking.ask(t, 0, 999, ALL - sorts));
        }
    }

    // ---- 20

    private static void read() {
        ParcelledTable t = new ParcelledTable();
        CHECKS.due("20 the rest", 1, () -> t.read(0, 999, ALL));
        CHECKS.due("20 the rest, the first key", 1, () -> t.read(0, 0, 1));
        CHECKS.due("20 the rest, the last key", 1, () -> t.read(999, 999, 512));
        CHECKS.due("20 no sort", 0, () -> t.read(0, 999, 0));
        t.makePart(10, 20, 0, 0);
        t.makePart(20, 30, 1, 1);
        t.makePart(30, 40, 2, 5);
        int[][] asked = {
            {0, 999, ALL, 9}, {0, 999, 1, 8}, {0, 999, 2, 8}, {0, 999, 0, 0}, {10, 39, ALL, 8}, {9, 9, ALL, 1},
            {10, 10, ALL, 1}, {9, 10, ALL, 2}, {19, 19, ALL, 1}, {19, 20, ALL, 3}, {20, 20, ALL, 2}, {29, 29, 1, 1},
            {29, 30, 2, 2}, {30, 30, ALL, 1}, {30, 33, ALL, 4}, {30, 34, ALL, 5}, {30, 39, ALL, 5}, {39, 39, 1, 1},
            {39, 40, 1, 2}, {40, 40, 1, 1}, {38, 39, ALL, 2}, {10, 39, 0, 0}, {999, 999, 0, 0},
        };
        for (int[] q : asked) {
            String what = "20 read " + q[0] + ", " + q[1] + ", " + q[2];
            CHECKS.due(what, q[3], () -> t.read(q[0], q[1], q[2]));
        }
        t.detach(3);
        CHECKS.due("20 no leaf of a detached part", 1, () -> t.read(30, 39, ALL));
        ParcelledTable covered = new ParcelledTable();
        covered.makePart(0, 1000, 0, 0);
        CHECKS.due("20 no key of the rest", 1, () -> covered.read(0, 999, ALL));
        CHECKS.due("20 no key of the rest and no sort", 0, () -> covered.read(0, 999, 0));
    }

    // ---- 23, 24, 25

    private static void buildIndex() {
        ParcelledTable t = new ParcelledTable();
        t.makePart(0, 10, 0, 0);
        t.insert(0, 0, 0);
        t.insert(10, 0, 99);
        t.detach(1);
        t.insert(20, 0, 99);
        t.remove(1);
        CHECKS.badState("23 stale", () -> t.find(99));
        CHECKS.due("23 rows of the table", 1, t::buildIndex);
        CHECKS.due("23 a row inserted when stale", 1, () -> t.find(99));
        CHECKS.due("23 no row of a detached part", 0, () -> t.find(0));
        t.remove(2);
        CHECKS.due("23 twice, without rows", 0, t::buildIndex);
        CHECKS.no("23 not stale", t::isStale);
    }

    private static void find() {
        ParcelledTable t = new ParcelledTable();
        for (int value = 0; value < 100; value++) {
            t.insert(value, 0, value);
        }
        for (int value = 0; value < 100; value++) {
            int asked = value;
            CHECKS.due("24 find " + value, 1, () -> t.find(asked));
        }
        t.remove(0);
        t.remove(99);
        CHECKS.due("24 the least value removed", 0, () -> t.find(0));
        CHECKS.due("24 the greatest value removed", 0, () -> t.find(99));
        t.insert(0, 0, 99);
        CHECKS.due("24 the greatest value again", 1, () -> t.find(99));
    }

    private static void findIn() {
        ParcelledTable t = new ParcelledTable();
        t.makePart(500, 1000, 2, 5);
        for (int value = 0; value < 100; value++) {
            t.insert(value * 10, value % 10, value);
        }
        t.detach(1);
        for (int value = 0; value < 100; value++) {
            int asked = value;
            CHECKS.due("25 the rest, " + value, value < 50 ? 1 : 0, () -> t.findIn(0, asked));
            CHECKS.due("25 the part, " + value, value < 50 ? 0 : 1, () -> t.findIn(1, asked));
        }
        CHECKS.yes("25 the wide index is stale", t::isStale);
    }
}
