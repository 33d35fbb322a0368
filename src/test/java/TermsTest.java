import java.util.function.Consumer;
import java.util.function.ToIntFunction;

/** The sentences of 'Terms' in the document, one by one; what throws changes nothing by RefusalsTest. */
public final class TermsTest {
    private static final Checks CHECKS = new Checks("TermsTest");
    private static final int ALL = 1023;

    public static void main(String[] args) {
        askingChangesNothing();
        rowsAreNumberedInOrder();
        removedNumbersAreNotGivenAgain();
        restHasWhatNoPartHas();
        restIsWhole();
        partsAreNumberedInOrder();
        rangeEndsAheadOfItsLastNumber();
        attachedAtFirst();
        attachedRangesNeverOverlap();
        detachedKeepsRangeAndRows();
        wholeHasOneLeaf();
        listBySorts();
        hashByKeys();
        wholeMayMatter();
        listMayMatter();
        hashMayMatter();
        rowsThereDoNotMatter();
        restMayMatter();
        detachedNeverMatters();
        questionHasBothItsKeys();
        wideIndexGoesStaleByThreeCallsAlone();
        wideIndexIsBuiltAnew();
        ownIndexesNeverGoStale();
        CHECKS.due("NONE", -1, () -> ParcelledTable.NONE);
        CHECKS.end();
    }

    // ---- calls that ask

    private static void askingChangesNothing() {
        unchanged("parts", ParcelledTable::parts);
        unchanged("rows", ParcelledTable::rows);
        unchanged("isStale", ParcelledTable::isStale);
        for (int key : new int[] {0, 15, 65, 999}) {
            unchanged("partOf " + key, t -> t.partOf(key));
        }
        for (int part : new int[] {0, Scenes.WHOLE, Scenes.AWAY, Scenes.GONE}) {
            unchanged("stateOf " + part, t -> t.stateOf(part));
        }
        for (int part : new int[] {0, Scenes.AWAY_EMPTY, Scenes.LIST, Scenes.HASH, Scenes.AWAY}) {
            unchanged("rowsIn " + part, t -> t.rowsIn(part, 0));
            unchanged("findIn " + part, t -> t.findIn(part, 7));
            unchanged("matters " + part, t -> t.matters(part, 0, 0, 999, ALL));
            unchanged("matters " + part + ", no sort", t -> t.matters(part, 0, 65, 65, 0));
        }
        for (int row : new int[] {0, Scenes.ROW_AWAY, Scenes.ROW_OVER_AWAY}) {
            unchanged("leafOf " + row, t -> t.leafOf(row));
        }
        for (int sorts : new int[] {0, 1, ALL}) {
            unchanged("count " + sorts, t -> t.count(0, 999, sorts));
            unchanged("countPlain " + sorts, t -> t.countPlain(0, 999, sorts));
            unchanged("read " + sorts, t -> t.read(0, 999, sorts));
        }
        for (int value : new int[] {0, 5, 99}) {
            unchanged("find " + value, t -> Checks.outcome(() -> t.find(value)));
        }
    }

    private static void unchanged(String what, Consumer<ParcelledTable> ask) {
        for (Scene scene : Scenes.WITH_PARTS) {
            Scene asked = scene.then(what, ask);
            String difference = Answers.difference(scene.answers(), asked.answers());
            CHECKS.report(asked.name + " changes nothing", "", difference);
        }
    }

    // ---- rows

    private static void rowsAreNumberedInOrder() {
        ParcelledTable t = new ParcelledTable();
        int[] keys = {999, 0, 500, 0};
        for (int row = 0; row < keys.length; row++) {
            int key = keys[row];
            CHECKS.due("row " + row, row, () -> t.insert(key, 0, key % 100));
        }
        CHECKS.due("the value of row 0", 99, () -> t.remove(0));
        CHECKS.due("the value of row 1", 0, () -> t.remove(1));
    }

    private static void removedNumbersAreNotGivenAgain() {
        ParcelledTable t = new ParcelledTable();
        for (int row = 0; row < 200; row++) {
            int number = row;
            CHECKS.due("row " + row + " when all were removed", number, () -> t.insert(number, 0, 0));
            CHECKS.due("removed " + row, 0, () -> t.remove(number));
        }
        CHECKS.due("all were removed", 0, t::rows);
        CHECKS.badState("the 201st row when all were removed", () -> t.insert(0, 0, 0));
        CHECKS.badNumber("a removed row has no leaf", () -> t.leafOf(0));
    }

    // ---- parts

    private static void restHasWhatNoPartHas() {
        ParcelledTable t = new ParcelledTable();
        t.insert(9, 0, 0);
        t.makePart(10, 20, 0, 0);
        t.makePart(0, 9, 0, 0);
        t.insert(20, 0, 0);
        t.insert(19, 0, 0);
        CHECKS.due("the key between two parts", 0, () -> t.leafOf(0));
        CHECKS.due("the key behind a part", 0, () -> t.leafOf(1));
        CHECKS.due("a part's last key", 10, () -> t.leafOf(2));
        t.detach(1);
        t.insert(15, 0, 0);
        CHECKS.due("a key of a detached part", 0, () -> t.leafOf(3));
        CHECKS.due("a row of a detached part", 10, () -> t.leafOf(2));
        CHECKS.due("rows of the rest", 3, () -> t.rowsIn(0, 0));
        CHECKS.due("rows carved out", 3, () -> t.carveOut(9, 1000, 0, 0));
        CHECKS.due("no rows of the rest", 0, () -> t.rowsIn(0, 0));
    }

    private static void restIsWhole() {
        ParcelledTable t = new ParcelledTable();
        for (int key = 0; key < 10; key++) {
            t.insert(key * 111, key, 0);
        }
        CHECKS.due("all rows in one leaf", 10, () -> t.rowsIn(0, 0));
        CHECKS.badNumber("no other leaf", () -> t.rowsIn(0, 1));
        CHECKS.due("attached", 0, () -> t.stateOf(0));
    }

    private static void partsAreNumberedInOrder() {
        ParcelledTable t = new ParcelledTable();
        CHECKS.due("made", 1, () -> t.makePart(100, 200, 0, 0));
        t.carveOut(0, 50, 0, 0);
        CHECKS.due("carved out", 2, () -> t.partOf(0));
        CHECKS.due("split off", 3, () -> t.split(1, 150));
        t.merge(1, 3);
        CHECKS.due("behind a gone one", 4, () -> t.makePart(50, 100, 0, 0));
        t.detach(4);
        CHECKS.due("behind a detached one", 5, () -> t.makePart(50, 100, 0, 0));
    }

    private static void rangeEndsAheadOfItsLastNumber() {
        for (int from = 0; from < 1000; from += 37) {
            int first = from;
            ParcelledTable t = new ParcelledTable();
            t.makePart(first, first + 1, 0, 0);
            CHECKS.due("one key, " + first, 1, () -> t.partOf(first));
            if (first > 0) {
                CHECKS.due("ahead of one key, " + first, 0, () -> t.partOf(first - 1));
            }
            if (first < 999) {
                CHECKS.due("behind one key, " + first, 0, () -> t.partOf(first + 1));
            }
        }
    }

    private static void attachedAtFirst() {
        ParcelledTable t = new ParcelledTable();
        t.makePart(0, 10, 0, 0);
        t.carveOut(10, 20, 0, 0);
        t.split(1, 5);
        for (int part = 1; part <= 3; part++) {
            int asked = part;
            CHECKS.due("attached at first " + part, 0, () -> t.stateOf(asked));
        }
    }

    private static void attachedRangesNeverOverlap() {
        // All pairs of ranges among six keys: the second one may be made if they have no key in common.
        for (int from = 0; from < 6; from++) {
            for (int to = from + 1; to <= 6; to++) {
                overlapsOf(from, to, 0);
                overlapsOf(from, to, 994);
            }
        }
    }

    private static void overlapsOf(int from, int to, int base) {
        for (int otherFrom = 0; otherFrom < 6; otherFrom++) {
            for (int otherTo = otherFrom + 1; otherTo <= 6; otherTo++) {
                int first = base + otherFrom;
                int behind = base + otherTo;
                boolean apart = otherTo <= from || to <= otherFrom;
                String what = (base + from) + " to " + (base + to) + " and " + first + " to " + behind;
                ParcelledTable made = oneRange(base + from, base + to);
                state("made " + what, apart, () -> made.makePart(first, behind, 0, 0));
                ParcelledTable carved = oneRange(base + from, base + to);
                state("carved out " + what, apart, () -> carved.carveOut(first, behind, 0, 0));
                ParcelledTable attached = new ParcelledTable();
                attached.makePart(first, behind, 0, 0);
                attached.detach(1);
                attached.makePart(base + from, base + to, 0, 0);
                state("attached " + what, apart, () -> attached.attach(1));
            }
        }
    }

    private static ParcelledTable oneRange(int from, int to) {
        ParcelledTable t = new ParcelledTable();
        t.makePart(from, to, 0, 0);
        return t;
    }

    private static void state(String what, boolean accepted, Runnable call) {
        String got = Checks.outcome(() -> {
            call.run();
            return 0;
        });
        CHECKS.report(what, accepted ? "0" : "throws.IllegalStateException", got);
    }

    private static void detachedKeepsRangeAndRows() {
        ParcelledTable t = new ParcelledTable();
        t.makePart(10, 20, 1, 2);
        t.insert(10, 0, 3);
        t.insert(19, 1, 4);
        t.insert(9, 0, 3);
        t.detach(1);
        CHECKS.due("not in the table", 1, t::rows);
        CHECKS.due("not counted", 1, () -> t.count(0, 999, ALL));
        CHECKS.due("not counted plainly", 1, () -> t.countPlain(0, 999, ALL));
        CHECKS.due("not in the wide index", 1, t::buildIndex);
        CHECKS.due("not found", 0, () -> t.find(4));
        CHECKS.due("kept in the list's leaf", 1, () -> t.rowsIn(1, 0));
        CHECKS.due("kept in the others' leaf", 1, () -> t.rowsIn(1, 1));
        CHECKS.due("attached with them", 2, () -> t.attach(1));
        CHECKS.due("the first key again", 1, () -> t.partOf(10));
        CHECKS.due("the last key again", 1, () -> t.partOf(19));
        CHECKS.due("the key behind", 0, () -> t.partOf(20));
        CHECKS.due("in the table again", 3, t::rows);
    }

    // ---- leaves

    private static void wholeHasOneLeaf() {
        ParcelledTable t = new ParcelledTable();
        t.makePart(0, 1000, 0, 0);
        for (int key = 0; key < 10; key++) {
            t.insert(key * 111, key, 0);
        }
        CHECKS.due("all rows in the one leaf", 10, () -> t.rowsIn(1, 0));
        CHECKS.badNumber("a whole part has no other leaf", () -> t.rowsIn(1, 1));
    }

    private static void listBySorts() {
        for (int list = 1; list <= 1022; list++) {
            ParcelledTable t = new ParcelledTable();
            t.makePart(0, 1000, 1, list);
            for (int sort = 0; sort < 10; sort++) {
                int row = t.insert(sort, sort, 0);
                int leaf = list / powerOfTwo(sort) % 2 == 1 ? 0 : 1;
                String what = "list " + list + ", sort " + sort;
                CHECKS.due(what, 10 + leaf, () -> t.leafOf(row));
                int sorts = powerOfTwo(sort);
                CHECKS.yes(what + " matters", () -> t.matters(1, leaf, 0, 999, sorts));
                CHECKS.no(what + " does not matter", () -> t.matters(1, 1 - leaf, 0, 999, sorts));
            }
        }
    }

    private static int powerOfTwo(int exponent) {
        int power = 1;
        for (int i = 0; i < exponent; i++) {
            power = power * 2;
        }
        return power;
    }

    private static void hashByKeys() {
        for (int leaves = 1; leaves <= 5; leaves++) {
            for (int first = 0; first < 1000; first += 50) {
                ParcelledTable t = new ParcelledTable();
                t.makePart(0, 1000, 2, leaves);
                for (int key = first; key < first + 50; key++) {
                    keyByHash(t, leaves, key);
                }
            }
        }
    }

    private static void keyByHash(ParcelledTable t, int leaves, int key) {
        int row = t.insert(key, key % 10, 0);
        int leaf = (key * 7 + 3) % leaves;
        CHECKS.due("hash of " + key + " by " + leaves, 10 + leaf, () -> t.leafOf(row));
        for (int other = 0; other < leaves; other++) {
            int asked = other;
            String what = "hash of " + key + " by " + leaves + ", leaf " + other;
            CHECKS.due(what, asked == leaf ? 1 : 0, () -> t.matters(1, asked, key, key, 1) ? 1 : 0);
        }
    }

    // ---- questions

    private static void wholeMayMatter() {
        ParcelledTable t = oneRange(10, 13);
        for (int low = 8; low < 15; low++) {
            for (int high = low; high < 15; high++) {
                int first = low;
                int last = high;
                boolean meets = first < 13 && last >= 10;
                String what = "whole 10 to 13, keys " + first + " to " + last;
                CHECKS.due(what, meets ? 1 : 0, () -> t.matters(1, 0, first, last, 512) ? 1 : 0);
                CHECKS.no(what + ", no sort", () -> t.matters(1, 0, first, last, 0));
            }
        }
    }

    private static void listMayMatter() {
        ParcelledTable t = new ParcelledTable();
        t.makePart(10, 20, 1, 513);
        // Each set with whether the list's leaf and the others' may matter.
        int[][] sets = {
            {0, 0, 0}, {1, 1, 0}, {512, 1, 0}, {513, 1, 0}, {2, 0, 1}, {256, 0, 1}, {510, 0, 1},
            {3, 1, 1}, {768, 1, 1}, {ALL, 1, 1},
        };
        for (int[] set : sets) {
            for (int leaf = 0; leaf <= 1; leaf++) {
                int asked = leaf;
                int want = set[1 + leaf];
                String what = "list, set " + set[0] + ", leaf " + leaf;
                CHECKS.due(what, want, () -> t.matters(1, asked, 10, 10, set[0]) ? 1 : 0);
                CHECKS.due(what + ", last key", want, () -> t.matters(1, asked, 19, 999, set[0]) ? 1 : 0);
                CHECKS.no(what + ", keys below", () -> t.matters(1, asked, 0, 9, set[0]));
                CHECKS.no(what + ", keys above", () -> t.matters(1, asked, 20, 999, set[0]));
            }
        }
    }

    private static void hashMayMatter() {
        for (int leaves = 1; leaves <= 5; leaves++) {
            for (int width = 1; width <= 7; width++) {
                hashMayMatter(leaves, 20, 20 + width);
                hashMayMatter(leaves, 1000 - width, 1000);
                hashMayMatter(leaves, 0, width);
            }
        }
    }

    private static void hashMayMatter(int leaves, int from, int to) {
        for (int leaf = 0; leaf < leaves; leaf++) {
            ParcelledTable t = new ParcelledTable();
            t.makePart(from, to, 2, leaves);
            for (int low = Math.max(0, from - 1); low < Math.min(1000, to + 1); low++) {
                for (int high = low; high < Math.min(1000, to + 1); high++) {
                    hashMayMatter(t, new int[] {leaves, from, to}, leaf, low, high);
                }
            }
        }
    }

    private static void hashMayMatter(ParcelledTable t, int[] part, int leaf, int low, int high) {
        int want = 0;
        for (int key = low; key <= high; key++) {
            if (key >= part[1] && key < part[2] && (7 * key + 3) % part[0] == leaf) {
                want = 1;
            }
        }
        String what = "hash " + java.util.Arrays.toString(part) + ", leaf " + leaf + ", keys " + low + " to " + high;
        CHECKS.due(what, want, () -> t.matters(1, leaf, low, high, 1) ? 1 : 0);
        CHECKS.no(what + ", no sort", () -> t.matters(1, leaf, low, high, 0));
    }

    private static void rowsThereDoNotMatter() {
        ParcelledTable t = new ParcelledTable();
        t.makePart(10, 20, 1, 1);
        CHECKS.yes("a leaf without rows", () -> t.matters(1, 0, 10, 10, 1));
        CHECKS.due("leaves without rows", 3, () -> t.read(0, 999, ALL));
        t.insert(10, 0, 0);
        CHECKS.no("a leaf with a row elsewhere", () -> t.matters(1, 1, 10, 10, 1));
        CHECKS.yes("a leaf of another sort", () -> t.matters(1, 1, 10, 10, 2));
        CHECKS.due("leaves with a row", 3, () -> t.read(0, 999, ALL));
        CHECKS.yes("the rest without rows", () -> t.matters(0, 0, 999, 999, 1));
    }

    private static void restMayMatter() {
        // Each table's ranges; a question asks the rest if one of its keys is in none of them.
        int[][][] tables = {
            {}, {{0, 1}}, {{0, 12}}, {{3, 5}}, {{3, 5}, {5, 8}}, {{5, 8}, {3, 5}}, {{3, 5}, {6, 8}},
            {{6, 8}, {3, 5}, {0, 3}}, {{1, 2}, {3, 4}, {5, 6}, {7, 8}}, {{8, 12}, {4, 8}, {0, 4}}, {{0, 1000}},
        };
        for (int[][] ranges : tables) {
            ParcelledTable t = new ParcelledTable();
            for (int[] range : ranges) {
                t.makePart(range[0], range[1], 2, 2);
            }
            for (int low = 0; low < 12; low++) {
                for (int high = low; high < 12; high++) {
                    restMayMatter(t, ranges, low, high);
                }
            }
        }
        restMayMatterBesideFifteenParts();
    }

    private static void restMayMatter(ParcelledTable t, int[][] ranges, int low, int high) {
        int want = 0;
        for (int key = low; key <= high; key++) {
            boolean free = true;
            for (int[] range : ranges) {
                free = free && (key < range[0] || key >= range[1]);
            }
            want = free ? 1 : want;
        }
        int due = want;
        String what = "rest beside " + java.util.Arrays.deepToString(ranges) + ", keys " + low + " to " + high;
        CHECKS.due(what, due, () -> t.matters(0, 0, low, high, 512) ? 1 : 0);
        CHECKS.no(what + ", no sort", () -> t.matters(0, 0, low, high, 0));
    }

    private static void restMayMatterBesideFifteenParts() {
        ParcelledTable t = new ParcelledTable();
        for (int part = 15; part >= 1; part--) {
            t.makePart(part * 60, part * 60 + 60, 0, 0);
        }
        CHECKS.no("rest beside fifteen parts", () -> t.matters(0, 0, 60, 959, ALL));
        CHECKS.yes("rest ahead of fifteen parts", () -> t.matters(0, 0, 59, 959, ALL));
        CHECKS.yes("rest behind fifteen parts", () -> t.matters(0, 0, 60, 960, ALL));
        CHECKS.yes("rest, the last key", () -> t.matters(0, 0, 999, 999, ALL));
        t.detach(8);
        CHECKS.yes("rest between fifteen parts", () -> t.matters(0, 0, 60, 959, ALL));
        CHECKS.yes("rest, a detached part's keys", () -> t.matters(0, 0, 480, 539, 1));
    }

    private static void detachedNeverMatters() {
        int[][] kinds = {{0, 0, 1}, {1, 512, 2}, {2, 5, 5}};
        for (int[] kind : kinds) {
            ParcelledTable t = new ParcelledTable();
            t.makePart(0, 1000, kind[0], kind[1]);
            t.insert(5, 5, 0);
            t.detach(1);
            for (int leaf = 0; leaf < kind[2]; leaf++) {
                int asked = leaf;
                CHECKS.no("detached, kind " + kind[0], () -> t.matters(1, asked, 0, 999, ALL));
            }
            CHECKS.due("the rest alone", 1, () -> t.read(0, 999, ALL));
            CHECKS.due("nothing to count", 0, () -> t.count(0, 999, ALL));
        }
    }

    private static void questionHasBothItsKeys() {
        ParcelledTable t = new ParcelledTable();
        t.insert(10, 0, 0);
        t.insert(20, 0, 0);
        ToIntFunction<int[]> count = q -> t.count(q[0], q[1], 1);
        ToIntFunction<int[]> plain = q -> t.countPlain(q[0], q[1], 1);
        for (ToIntFunction<int[]> call : java.util.List.of(count, plain)) {
            CHECKS.due("both keys", 2, () -> call.applyAsInt(new int[] {10, 20}));
            CHECKS.due("behind the first", 1, () -> call.applyAsInt(new int[] {11, 20}));
            CHECKS.due("ahead of the last", 1, () -> call.applyAsInt(new int[] {10, 19}));
            CHECKS.due("one key", 1, () -> call.applyAsInt(new int[] {20, 20}));
        }
    }

    // ---- indexes

    private static void wideIndexGoesStaleByThreeCallsAlone() {
        CHECKS.no("stale at first", () -> new ParcelledTable().isStale());
        staleBehind("detach", true, t -> t.detach(Scenes.WHOLE));
        staleBehind("detach without rows", true, t -> t.detach(Scenes.LAST));
        staleBehind("attach", true, t -> t.attach(Scenes.AWAY));
        staleBehind("exchange", true, t -> t.exchange(Scenes.LAST, 9));
        staleBehind("makePart", false, t -> t.makePart(200, 300, 0, 0));
        staleBehind("carveOut", false, t -> t.carveOut(0, 10, 0, 0));
        staleBehind("split", false, t -> t.split(Scenes.WHOLE, 15));
        staleBehind("merge", false, t -> t.merge(Scenes.WHOLE, Scenes.BESIDE));
        staleBehind("insert", false, t -> t.insert(15, 0, 0));
        staleBehind("change", false, t -> t.change(Scenes.ROW, 999, 0));
        staleBehind("remove", false, t -> t.remove(Scenes.ROW));
        staleBehind("remove from a detached part", false, t -> t.remove(Scenes.ROW_AWAY));
        staleBehind("buildIndex", false, ParcelledTable::buildIndex);
    }

    // The part 9 is detached, has the keys of LAST and no rows; no row of the rest lies over AWAY.
    private static void staleBehind(String what, boolean stale, Consumer<ParcelledTable> call) {
        Scene ready = Scenes.STALE.then("made ready", t -> {
            t.remove(Scenes.ROW_OVER_AWAY);
            t.detach(Scenes.LAST);
            t.makePart(990, 1000, 0, 0);
            t.detach(9);
            t.attach(Scenes.LAST);
        });
        ParcelledTable built = ready.then("built", ParcelledTable::buildIndex).table();
        call.accept(built);
        CHECKS.due(what + " makes stale", stale ? 1 : 0, () -> built.isStale() ? 1 : 0);
        CHECKS.report(what + ", then find", stale ? "throws.IllegalStateException" : "found",
            Checks.outcome(() -> built.find(0)).replaceFirst("\\d+", "found"));
        ParcelledTable notBuilt = ready.table();
        call.accept(notBuilt);
        boolean builds = what.equals("buildIndex");
        CHECKS.due(what + " leaves stale", builds ? 0 : 1, () -> notBuilt.isStale() ? 1 : 0);
    }

    private static void wideIndexIsBuiltAnew() {
        ParcelledTable t = new ParcelledTable();
        t.makePart(0, 10, 0, 0);
        t.insert(5, 0, 6);
        t.insert(15, 0, 6);
        CHECKS.due("built at first", 2, () -> t.find(6));
        t.detach(1);
        CHECKS.badState("stale", () -> t.find(6));
        CHECKS.due("built anew", 1, t::buildIndex);
        CHECKS.due("without the detached row", 1, () -> t.find(6));
        t.attach(1);
        CHECKS.badState("stale again", () -> t.find(6));
        CHECKS.due("built once more", 2, t::buildIndex);
        CHECKS.due("with the row", 2, () -> t.find(6));
        t.insert(5, 0, 6);
        CHECKS.due("with the next row", 3, () -> t.find(6));
        t.change(2, 999, 9);
        CHECKS.due("a changed row keeps its value", 3, () -> t.find(6));
    }

    private static void ownIndexesNeverGoStale() {
        ParcelledTable t = new ParcelledTable();
        t.makePart(0, 10, 1, 1);
        t.insert(5, 0, 6);
        t.insert(6, 1, 6);
        t.insert(15, 0, 6);
        t.detach(1);
        CHECKS.due("of the detached part", 2, () -> t.findIn(1, 6));
        CHECKS.due("of the rest", 1, () -> t.findIn(0, 6));
        t.remove(0);
        CHECKS.due("of the detached part without the row", 1, () -> t.findIn(1, 6));
        t.insert(16, 0, 6);
        CHECKS.due("of the rest with the next row", 2, () -> t.findIn(0, 6));
        t.makePart(0, 10, 0, 0);
        t.exchange(2, 1);
        CHECKS.due("of the part with the other one's row", 1, () -> t.findIn(2, 6));
        CHECKS.due("of the part without it", 0, () -> t.findIn(1, 6));
        t.carveOut(10, 20, 0, 0);
        CHECKS.due("of the part carved out", 2, () -> t.findIn(3, 6));
        t.split(3, 16);
        CHECKS.due("of the part split", 1, () -> t.findIn(3, 6));
        CHECKS.due("of the part split off", 1, () -> t.findIn(4, 6));
        t.merge(3, 4);
        CHECKS.due("of the merged part", 2, () -> t.findIn(3, 6));
        CHECKS.yes("the wide index stays stale", t::isStale);
    }
}
