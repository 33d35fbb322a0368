import java.util.ArrayList;
import java.util.List;
import java.util.function.Consumer;

/**
 * Each ground of each throws clause, alone and with another one: the exception that is due is
 * thrown, the one named first of several, and everything stays as it was.
 */
public final class RefusalsTest {
    private static final Checks CHECKS = new Checks("RefusalsTest");
    private static final int MIN = Integer.MIN_VALUE;
    private static final int MAX = Integer.MAX_VALUE;
    private static final int REST = 0;
    private static final int[] NO_PARTS = {-1, 16, MIN, MAX};
    private static final int[] NO_ROWS = {-1, 200, MIN, MAX};
    private static final int[] NO_KEYS = {-1, 1000, MIN, MAX};
    private static final int[] NO_SORTS = {-1, 10, MIN, MAX};
    private static final int[] NO_VALUES = {-1, 100, MIN, MAX};

    private interface Making {
        int make(ParcelledTable t, int from, int to, int kind, int detail);
    }

    private interface PartCall {
        void on(ParcelledTable t, int part);
    }

    private interface RowCall {
        void on(ParcelledTable t, int row);
    }

    private interface Asking {
        void ask(ParcelledTable t, int low, int high, int sorts);
    }

    public static void main(String[] args) {
        making("makePart", ParcelledTable::makePart);
        making("carveOut", ParcelledTable::carveOut);
        makePartOverRows();
        splitNumbers();
        splitKeys();
        splitStates();
        mergeNumbers();
        mergeStates();
        mergeKinds();
        detach();
        attach();
        exchangeNumbers();
        exchangeStates();
        exchangeRows();
        insert();
        change();
        remove();
        stateOf();
        partOf();
        leafOf();
        rowsIn();
        questions("count", ParcelledTable::count);
        questions("countPlain", ParcelledTable::countPlain);
        questions("read", ParcelledTable::read);
        matters();
        find();
        findIn();
        CHECKS.end();
    }

    // ---- how a call is tried

    private static void badNumber(String what, Scene[] scenes, Consumer<ParcelledTable> call) {
        refused(what, "throws.IndexOutOfBoundsException", scenes, call);
    }

    private static void badArgument(String what, Scene[] scenes, Consumer<ParcelledTable> call) {
        refused(what, "throws.IllegalArgumentException", scenes, call);
    }

    private static void badState(String what, Scene[] scenes, Consumer<ParcelledTable> call) {
        refused(what, "throws.IllegalStateException", scenes, call);
    }

    private static void refused(String what, String due, Scene[] scenes, Consumer<ParcelledTable> call) {
        for (Scene scene : scenes) {
            String told = what + " [" + scene.name + "]";
            String got = outcome(scene.table(), call);
            CHECKS.report(told, due, got);
            if (got.equals(due)) {
                changesNothing(told, scene, call);
            }
        }
    }

    private static void changesNothing(String told, Scene scene, Consumer<ParcelledTable> call) {
        List<String> answers = Answers.of(() -> tableBehind(scene, call));
        CHECKS.report(told + " changes nothing", "", Answers.difference(scene.answers(), answers));
    }

    private static ParcelledTable tableBehind(Scene scene, Consumer<ParcelledTable> call) {
        ParcelledTable table = scene.table();
        outcome(table, call);
        return table;
    }

    private static String outcome(ParcelledTable table, Consumer<ParcelledTable> call) {
        return Checks.outcome(() -> {
            call.accept(table);
            return 0;
        });
    }

    private static Scene[] one(Scene scene) {
        return new Scene[] {scene};
    }

    // ---- grounds that many calls share

    private static void badParts(String what, PartCall call) {
        for (int part : NO_PARTS) {
            badNumber(what + " no such part " + part, Scenes.WITH_PARTS, t -> call.on(t, part));
            badNumber(what + " no such part " + part, one(Scenes.EMPTY), t -> call.on(t, part));
        }
        for (int part : new int[] {Scenes.NOT_MADE, 15}) {
            badNumber(what + " part not made " + part, Scenes.ROOM_FOR_PARTS, t -> call.on(t, part));
        }
        badNumber(what + " the first part not made", one(Scenes.EMPTY), t -> call.on(t, 1));
    }

    private static void badPartsOrGone(String what, PartCall call) {
        badParts(what, call);
        badNumber(what + " gone", Scenes.WITH_PARTS, t -> call.on(t, Scenes.GONE));
    }

    private static void badPartsOrGoneOrRest(String what, PartCall call) {
        badPartsOrGone(what, call);
        badNumber(what + " the rest", Scenes.WITH_PARTS, t -> call.on(t, REST));
        badNumber(what + " the rest", one(Scenes.EMPTY), t -> call.on(t, REST));
    }

    private static void badRows(String what, RowCall call) {
        for (int row : NO_ROWS) {
            badNumber(what + " no such row " + row, Scenes.WITH_PARTS, t -> call.on(t, row));
        }
        for (int row : new int[] {Scenes.ROW_NOT_INSERTED, 199}) {
            badNumber(what + " row not inserted " + row, Scenes.ROOM_FOR_ROWS, t -> call.on(t, row));
        }
        badNumber(what + " removed", Scenes.WITH_PARTS, t -> call.on(t, Scenes.ROW_REMOVED));
        badNumber(what + " removed when detached", Scenes.WITH_PARTS, t -> call.on(t, Scenes.ROW_AWAY_REMOVED));
        badNumber(what + " the first row not inserted", one(Scenes.EMPTY), t -> call.on(t, 0));
    }

    // ---- makePart, carveOut

    private static final int[][] WRONG_RANGES = {
        {-1, 1}, {-1, 11}, {MIN, 1}, {1000, 1001}, {1000, 1000}, {MAX, MIN}, {MAX, MAX},
        {0, 0}, {1, 0}, {999, 999}, {0, 1001}, {999, 1001}, {0, -1}, {0, MIN}, {1, MIN}, {999, MIN}, {0, MAX},
        {10, 10}, {15, 15}, {5, 5}, {80, 80}, {995, 1001}, {80, 1001}, {11, 10},
    };
    private static final int[][] WRONG_KINDS = {
        {-1, 0}, {-1, 1}, {3, 0}, {3, 1}, {MIN, 0}, {MAX, 1},
        {0, -1}, {0, 1}, {0, MIN}, {0, MAX},
        {1, 0}, {1, -1}, {1, 1023}, {1, 1024}, {1, MIN}, {1, MAX},
        {2, 0}, {2, -1}, {2, 6}, {2, MIN}, {2, MAX},
    };
    private static final int[][] TAKEN_RANGES = {
        {10, 20}, {10, 11}, {19, 20}, {9, 11}, {19, 21}, {29, 31}, {12, 18}, {15, 16}, {0, 1000},
        {990, 1000}, {999, 1000}, {989, 991}, {59, 60}, {50, 60}, {39, 41},
    };
    private static final int[][] RANGES_WITH_ROWS_OF_REST = {
        {5, 6}, {5, 10}, {0, 6}, {0, 10}, {80, 81}, {80, 90}, {65, 66}, {60, 70}, {60, 66}, {65, 70},
    };

    private static void making(String name, Making making) {
        for (int[] range : WRONG_RANGES) {
            String what = name + " range " + range[0] + " to " + range[1];
            badArgument(what, one(Scenes.STALE), t -> making.make(t, range[0], range[1], 0, 0));
            badArgument(what + ", 15 parts", Scenes.NO_ROOM_FOR_PARTS,
                t -> making.make(t, range[0], range[1], 2, 5));
        }
        for (int[] kind : WRONG_KINDS) {
            wrongKind(name, making, kind);
        }
        for (int[] range : TAKEN_RANGES) {
            badState(name + " overlap " + range[0] + " to " + range[1], Scenes.ROOM_FOR_PARTS,
                t -> making.make(t, range[0], range[1], 0, 0));
        }
        badState(name + " the 16th part", Scenes.NO_ROOM_FOR_PARTS, t -> making.make(t, 200, 300, 0, 0));
        badState(name + " the 16th part, rows", Scenes.NO_ROOM_FOR_PARTS, t -> making.make(t, 5, 6, 1, 1));
        badState(name + " the 16th part, overlap", Scenes.NO_ROOM_FOR_PARTS, t -> making.make(t, 10, 20, 2, 5));
    }

    private static void wrongKind(String name, Making making, int[] kind) {
        String what = name + " kind " + kind[0] + " and detail " + kind[1];
        badArgument(what, one(Scenes.STALE), t -> making.make(t, 200, 300, kind[0], kind[1]));
        badArgument(what + ", 15 parts", one(Scenes.FULL_OF_PARTS),
            t -> making.make(t, 200, 300, kind[0], kind[1]));
        badArgument(what + ", overlap", one(Scenes.BUILT), t -> making.make(t, 10, 20, kind[0], kind[1]));
        badArgument(what + ", rows of the rest", one(Scenes.BUILT),
            t -> making.make(t, 5, 10, kind[0], kind[1]));
    }

    private static void makePartOverRows() {
        for (int[] range : RANGES_WITH_ROWS_OF_REST) {
            badState("makePart over rows of the rest " + range[0] + " to " + range[1], Scenes.ROOM_FOR_PARTS,
                t -> t.makePart(range[0], range[1], 0, 0));
        }
    }

    // ---- split

    private static void splitNumbers() {
        for (int at : new int[] {15, 55, 0, 1000, MIN, MAX}) {
            badPartsOrGoneOrRest("split at " + at, (t, part) -> t.split(part, at));
        }
        badNumber("split the rest, 15 parts", Scenes.NO_ROOM_FOR_PARTS, t -> t.split(REST, 500));
        badNumber("split gone, 15 parts", Scenes.NO_ROOM_FOR_PARTS, t -> t.split(Scenes.GONE, 55));
    }

    private static void splitKeys() {
        for (int at : new int[] {10, 20, 9, 21, -1, 0, 1000, MIN, MAX}) {
            badArgument("split at " + at, Scenes.WITH_PARTS, t -> t.split(Scenes.WHOLE, at));
        }
        for (int at : new int[] {60, 70, 59, 71, MIN, MAX}) {
            badArgument("split at " + at + ", detached", Scenes.WITH_PARTS, t -> t.split(Scenes.AWAY, at));
        }
        for (int at : new int[] {990, 1000, 989, 1001}) {
            badArgument("split at " + at, Scenes.WITH_PARTS, t -> t.split(Scenes.LAST, at));
        }
        Scene oneKey = new Scene("a part of one key", t -> t.makePart(10, 11, 0, 0));
        for (int at : new int[] {9, 10, 11, 12}) {
            badArgument("split one key at " + at, one(oneKey), t -> t.split(1, at));
        }
    }

    private static void splitStates() {
        badState("split detached", Scenes.WITH_PARTS, t -> t.split(Scenes.AWAY, 65));
        badState("split detached without rows", Scenes.WITH_PARTS, t -> t.split(Scenes.AWAY_EMPTY, 13));
        badState("split, the 16th part", Scenes.NO_ROOM_FOR_PARTS, t -> t.split(Scenes.WHOLE, 15));
        badState("split detached, the 16th part", Scenes.NO_ROOM_FOR_PARTS, t -> t.split(Scenes.AWAY, 65));
    }

    // ---- merge

    private static void mergeNumbers() {
        for (int other : new int[] {Scenes.WHOLE, Scenes.AWAY}) {
            badPartsOrGoneOrRest("merge into " + other, (t, part) -> t.merge(other, part));
            badPartsOrGoneOrRest("merge of " + other, (t, part) -> t.merge(part, other));
        }
        badPartsOrGoneOrRest("merge twice the same", (t, part) -> t.merge(part, part));
    }

    private static void mergeStates() {
        badState("merge into a detached one", Scenes.WITH_PARTS, t -> t.merge(Scenes.AWAY, Scenes.WHOLE));
        badState("merge of a detached one", Scenes.WITH_PARTS, t -> t.merge(Scenes.HASH, Scenes.AWAY));
        badState("merge of detached ones", Scenes.WITH_PARTS, t -> t.merge(Scenes.AWAY_EMPTY, Scenes.AWAY));
        badState("merge with a gap", Scenes.WITH_PARTS, t -> t.merge(Scenes.LIST, Scenes.LAST));
        badState("merge the wrong way round", Scenes.WITH_PARTS, t -> t.merge(Scenes.BESIDE, Scenes.WHOLE));
        badState("merge with itself", Scenes.WITH_PARTS, t -> t.merge(Scenes.WHOLE, Scenes.WHOLE));
        badState("merge of another kind", Scenes.WITH_PARTS, t -> t.merge(Scenes.BESIDE, Scenes.LIST));
        badState("merge list and hash", Scenes.WITH_PARTS, t -> t.merge(Scenes.LIST, Scenes.HASH));
    }

    private static void mergeKinds() {
        Scene scene = new Scene("parts side by side", t -> {
            t.makePart(0, 10, 1, 3);
            t.makePart(10, 20, 2, 3);
            t.makePart(20, 30, 2, 4);
            t.makePart(30, 40, 1, 4);
            t.makePart(40, 50, 1, 5);
            t.makePart(51, 60, 1, 5);
            t.makePart(60, 70, 0, 0);
            t.makePart(990, 1000, 1, 3);
            t.insert(5, 0, 0);
            t.insert(15, 0, 0);
        });
        badState("merge of another kind, the same detail", one(scene), t -> t.merge(1, 2));
        badState("merge of another count of leaves", one(scene), t -> t.merge(2, 3));
        badState("merge hash and list, the same detail", one(scene), t -> t.merge(3, 4));
        badState("merge of another list", one(scene), t -> t.merge(4, 5));
        badState("merge with a gap of one key", one(scene), t -> t.merge(5, 6));
        badState("merge of another kind, whole", one(scene), t -> t.merge(6, 7));
        badState("merge round the last key", one(scene), t -> t.merge(8, 1));
        Scene away = scene.then("one detached", t -> t.detach(5)).then("a wider one", t -> t.makePart(40, 51, 1, 5));
        badState("merge of a detached one that fits", one(away), t -> t.merge(4, 5));
        Scene both = new Scene("two detached side by side", t -> {
            t.makePart(10, 20, 0, 0);
            t.makePart(20, 30, 0, 0);
            t.detach(1);
        });
        badState("merge of the same kind into a detached one", one(both), t -> t.merge(1, 2));
        Scene other = both.then("the other one", t -> t.attach(1)).then("detached", t -> t.detach(2));
        badState("merge of a detached one of the same kind", one(other), t -> t.merge(1, 2));
        Scene neither = other.then("both detached", t -> t.detach(1));
        badState("merge of two detached ones of the same kind", one(neither), t -> t.merge(1, 2));
    }

    // ---- detach, attach

    private static void detach() {
        badPartsOrGoneOrRest("detach", (t, part) -> t.detach(part));
        badState("detach twice", Scenes.WITH_PARTS, t -> t.detach(Scenes.AWAY));
        badState("detach twice without rows", Scenes.WITH_PARTS, t -> t.detach(Scenes.AWAY_EMPTY));
    }

    private static void attach() {
        badPartsOrGoneOrRest("attach", (t, part) -> t.attach(part));
        badState("attach an attached one", Scenes.WITH_PARTS, t -> t.attach(Scenes.WHOLE));
        badState("attach an attached one without rows", Scenes.WITH_PARTS, t -> t.attach(Scenes.LAST));
        badState("attach over an attached part", Scenes.WITH_PARTS, t -> t.attach(Scenes.AWAY_EMPTY));
        badState("attach over a row of the rest", Scenes.WITH_PARTS, t -> t.attach(Scenes.AWAY));
        Scene both = Scenes.BUILT.then("part and row over AWAY", t -> {
            t.change(Scenes.ROW_OVER_AWAY, 69, 0);
            t.makePart(60, 61, 0, 0);
        });
        badState("attach over a part and a row of the rest", one(both), t -> t.attach(Scenes.AWAY));
    }

    // ---- exchange

    private static void exchangeNumbers() {
        for (int other : new int[] {Scenes.WHOLE, Scenes.AWAY}) {
            badPartsOrGoneOrRest("exchange of " + other, (t, part) -> t.exchange(other, part));
            badPartsOrGoneOrRest("exchange with " + other, (t, part) -> t.exchange(part, other));
        }
        badPartsOrGoneOrRest("exchange twice the same", (t, part) -> t.exchange(part, part));
    }

    private static void exchangeStates() {
        badState("exchange, the one is detached", Scenes.WITH_PARTS,
            t -> t.exchange(Scenes.AWAY_EMPTY, Scenes.AWAY));
        badState("exchange, the other one is attached", Scenes.WITH_PARTS,
            t -> t.exchange(Scenes.WHOLE, Scenes.LAST));
        badState("exchange, the other way round", Scenes.WITH_PARTS,
            t -> t.exchange(Scenes.AWAY_EMPTY, Scenes.LAST));
        badState("exchange with itself", Scenes.WITH_PARTS, t -> t.exchange(Scenes.LAST, Scenes.LAST));
        badState("exchange with itself, detached", Scenes.WITH_PARTS,
            t -> t.exchange(Scenes.AWAY_EMPTY, Scenes.AWAY_EMPTY));
    }

    private static void exchangeRows() {
        badState("exchange, a row of the detached one", Scenes.WITH_PARTS,
            t -> t.exchange(Scenes.LAST, Scenes.AWAY));
        badState("exchange, a row of the attached one", Scenes.WITH_PARTS,
            t -> t.exchange(Scenes.WHOLE, Scenes.AWAY_EMPTY));
        badState("exchange, rows of both", Scenes.WITH_PARTS, t -> t.exchange(Scenes.WHOLE, Scenes.AWAY));
        for (int key : new int[] {9, 20}) {
            badState("exchange, detached row at " + key, one(exchangeScene(500, key)), t -> t.exchange(2, 1));
            badState("exchange, attached row at " + key, one(exchangeScene(key, 500)), t -> t.exchange(2, 1));
        }
    }

    // The part 2 is attached, the part 1 detached; the key 500 puts no row into a part.
    private static Scene exchangeScene(int attachedKey, int detachedKey) {
        return new Scene("rows at " + attachedKey + " and " + detachedKey, t -> {
            boolean narrow = detachedKey == 500;
            t.makePart(narrow ? 10 : 0, narrow ? 20 : 30, 1, 1);
            t.insert(detachedKey, 0, 1);
            t.insert(15, 0, 1);
            t.detach(1);
            t.makePart(narrow ? 0 : 10, narrow ? 30 : 20, 1, 1);
            t.insert(attachedKey, 0, 2);
            t.insert(16, 0, 2);
            t.buildIndex();
        });
    }

    // ---- rows

    private static final int[][] WRONG_ROWS = wrongRows();

    private static int[][] wrongRows() {
        List<int[]> wrong = new ArrayList<>();
        for (int key : NO_KEYS) {
            wrong.add(new int[] {key, 0, 0});
        }
        for (int sort : NO_SORTS) {
            wrong.add(new int[] {0, sort, 0});
        }
        for (int value : NO_VALUES) {
            wrong.add(new int[] {0, 0, value});
        }
        wrong.add(new int[] {-1, 10, 100});
        return wrong.toArray(new int[0][]);
    }

    private static void insert() {
        for (int[] row : WRONG_ROWS) {
            String what = "insert " + row[0] + ", " + row[1] + ", " + row[2];
            badArgument(what, Scenes.ROOM_FOR_ROWS, t -> t.insert(row[0], row[1], row[2]));
            badArgument(what + ", the 201st row", Scenes.NO_ROOM_FOR_ROWS, t -> t.insert(row[0], row[1], row[2]));
        }
        for (int key : new int[] {0, 15, 65, 999}) {
            badState("insert the 201st row at " + key, Scenes.NO_ROOM_FOR_ROWS, t -> t.insert(key, 0, 0));
        }
    }

    private static void change() {
        badRows("change", (t, row) -> t.change(row, 15, 0));
        badRows("change, wrong key", (t, row) -> t.change(row, 1000, 0));
        badRows("change, wrong sort", (t, row) -> t.change(row, 15, -1));
        for (int[] wrong : WRONG_ROWS) {
            if (wrong[2] == 0) {
                String what = "change to " + wrong[0] + ", " + wrong[1];
                badArgument(what, Scenes.WITH_PARTS, t -> t.change(Scenes.ROW, wrong[0], wrong[1]));
                badArgument(what + ", detached", Scenes.WITH_PARTS, t -> t.change(Scenes.ROW_AWAY, wrong[0], wrong[1]));
            }
        }
        for (int key : new int[] {60, 61, 15, 999}) {
            badState("change a detached row to " + key, Scenes.WITH_PARTS, t -> t.change(Scenes.ROW_AWAY, key, 0));
        }
    }

    private static void remove() {
        badRows("remove", (t, row) -> t.remove(row));
    }

    // ---- what is asked

    private static void stateOf() {
        badParts("stateOf", (t, part) -> t.stateOf(part));
    }

    private static void partOf() {
        for (int key : NO_KEYS) {
            badArgument("partOf " + key, Scenes.WITH_PARTS, t -> t.partOf(key));
        }
    }

    private static void leafOf() {
        badRows("leafOf", (t, row) -> t.leafOf(row));
    }

    // Each part with the number behind its last leaf.
    private static final int[][] LEAVES = {
        {REST, 1}, {Scenes.WHOLE, 1}, {Scenes.LIST, 2}, {Scenes.HASH, 3}, {Scenes.AWAY, 1}, {Scenes.LAST, 2},
    };

    private static void rowsIn() {
        badPartsOrGone("rowsIn", (t, part) -> t.rowsIn(part, 0));
        badPartsOrGone("rowsIn, no such leaf", (t, part) -> t.rowsIn(part, -1));
        for (int[] part : LEAVES) {
            for (int leaf : new int[] {-1, part[1], 5, MIN, MAX}) {
                badNumber("rowsIn " + part[0] + ", leaf " + leaf, Scenes.WITH_PARTS, t -> t.rowsIn(part[0], leaf));
            }
        }
    }

    private static final int[][] WRONG_QUESTIONS = {
        {-1, 0, 1}, {-1, -1, 1}, {MIN, 0, 1}, {1000, 1000, 1}, {1000, 999, 1}, {MAX, MAX, 1}, {MAX, MIN, 1},
        {0, -1, 1}, {1, 0, 1}, {999, 998, 1}, {0, 1000, 1}, {999, 1000, 1}, {0, MAX, 1},
        {0, MIN, 1}, {1, MIN, 1}, {999, MIN, 1},
        {0, 0, -1}, {0, 999, 1024}, {0, 999, MIN}, {0, 999, MAX}, {0, 999, 2047},
        {-1, 0, 0}, {1, 0, 0}, {999, 1000, 0}, {-1, 1000, 1024},
    };

    private static void questions(String name, Asking asking) {
        for (int[] q : WRONG_QUESTIONS) {
            String what = name + " " + q[0] + ", " + q[1] + ", " + q[2];
            badArgument(what, Scenes.WITH_PARTS, t -> asking.ask(t, q[0], q[1], q[2]));
            badArgument(what, one(Scenes.EMPTY), t -> asking.ask(t, q[0], q[1], q[2]));
        }
    }

    private static void matters() {
        badPartsOrGone("matters", (t, part) -> t.matters(part, 0, 0, 999, 1));
        badPartsOrGone("matters, wrong question", (t, part) -> t.matters(part, 0, 1, 0, 1024));
        for (int[] part : LEAVES) {
            for (int leaf : new int[] {-1, part[1], MIN, MAX}) {
                String what = "matters " + part[0] + ", leaf " + leaf;
                badNumber(what, Scenes.WITH_PARTS, t -> t.matters(part[0], leaf, 0, 999, 1));
                badNumber(what + ", wrong question", Scenes.WITH_PARTS, t -> t.matters(part[0], leaf, -1, 999, 1));
            }
            questions("matters " + part[0] + ", last leaf,", part[0], part[1] - 1);
        }
    }

    private static void questions(String name, int part, int leaf) {
        for (int[] q : WRONG_QUESTIONS) {
            String what = name + " " + q[0] + ", " + q[1] + ", " + q[2];
            badArgument(what, one(Scenes.BUILT), t -> t.matters(part, leaf, q[0], q[1], q[2]));
        }
    }

    private static void find() {
        for (int value : NO_VALUES) {
            badArgument("find " + value, one(Scenes.BUILT), t -> t.find(value));
            badArgument("find " + value + ", stale", one(Scenes.STALE), t -> t.find(value));
        }
        for (int value : new int[] {0, 5, 99}) {
            badState("find " + value + ", stale", one(Scenes.STALE), t -> t.find(value));
        }
    }

    private static void findIn() {
        badPartsOrGone("findIn", (t, part) -> t.findIn(part, 5));
        badPartsOrGone("findIn, wrong value", (t, part) -> t.findIn(part, 100));
        for (int value : NO_VALUES) {
            for (int part : new int[] {REST, Scenes.WHOLE, Scenes.AWAY}) {
                badArgument("findIn " + part + ", " + value, Scenes.WITH_PARTS, t -> t.findIn(part, value));
            }
        }
    }
}
