/** One test for each promise of ../shared/DOC.md: ordinary inputs, named edges and wrong inputs. */
public final class PromisesTest {
    private static final Checks CHECKS = new Checks("PromisesTest");
    private static final int ALL = 1023;

    public static void main(String[] args) {
        constants();
        promise01NewObject();
        promise02MakePart();
        promise02MakePartRefuses();
        promise03CarveOut();
        promise03CarveOutRefuses();
        promise04Split();
        promise04SplitRefuses();
        promise05Merge();
        promise05MergeRefuses();
        promise06Detach();
        promise07Attach();
        promise08Exchange();
        promise08ExchangeRefuses();
        promise09Insert();
        promise10Change();
        promise11Remove();
        promise12Parts();
        promise13StateOf();
        promise14PartOf();
        promise15LeafOf();
        promise16RowsIn();
        promise17Rows();
        promise18Count();
        promise19CountPlain();
        promise20Read();
        promise21MattersByKind();
        promise21MattersForRest();
        promise21MattersRefuses();
        promise22IsStale();
        promise23BuildIndex();
        promise24Find();
        promise25FindIn();
        CHECKS.end();
    }

    private static void constants() {
        CHECKS.due("NONE", -1, () -> ParcelledTable.NONE);
    }

    private static void promise01NewObject() {
        ParcelledTable t = new ParcelledTable();
        CHECKS.due("1 parts()", 0, t::parts);
        CHECKS.due("1 rows()", 0, t::rows);
        CHECKS.due("1 stateOf(0)", 0, () -> t.stateOf(0));
        CHECKS.due("1 partOf(0)", 0, () -> t.partOf(0));
        CHECKS.due("1 partOf(999)", 0, () -> t.partOf(999));
        CHECKS.due("1 rowsIn(0, 0)", 0, () -> t.rowsIn(0, 0));
        CHECKS.due("1 read(0, 999, ALL)", 1, () -> t.read(0, 999, ALL));
        CHECKS.no("1 isStale()", t::isStale);
        CHECKS.due("1 find(0)", 0, () -> t.find(0));
        CHECKS.badNumber("1 stateOf(1)", () -> t.stateOf(1));
        CHECKS.badNumber("1 leafOf(0)", () -> t.leafOf(0));
    }

    private static void promise02MakePart() {
        ParcelledTable t = new ParcelledTable();
        t.insert(10, 0, 0);
        t.insert(20, 0, 0);
        CHECKS.due("2 between two rows of the rest", 1, () -> t.makePart(11, 20, 0, 0));
        CHECKS.due("2 beside another part", 2, () -> t.makePart(21, 30, 1, 1));
        CHECKS.due("2 to the last key", 3, () -> t.makePart(999, 1000, 1, 1022));
        CHECKS.due("2 from the first key", 4, () -> t.makePart(0, 1, 2, 1));
        CHECKS.due("2 five leaves", 5, () -> t.makePart(1, 2, 2, 5));
        CHECKS.due("2 is attached", 0, () -> t.stateOf(5));
        CHECKS.due("2 has its range", 5, () -> t.partOf(1));
        CHECKS.due("2 has no rows", 0, () -> t.rowsIn(5, 4));
        CHECKS.no("2 leaves the index", t::isStale);
        t.detach(1);
        CHECKS.due("2 over a detached part", 6, () -> t.makePart(12, 19, 0, 0));
    }

    private static void promise02MakePartRefuses() {
        ParcelledTable t = new ParcelledTable();
        refusePartArguments("2", t::makePart);
        CHECKS.due("2 refusals make none", 0, t::parts);
        t.makePart(100, 200, 0, 0);
        refuseOverlaps("2", t::makePart);
        CHECKS.badArgument("2 argument before overlap", () -> t.makePart(150, 160, 0, 1));
        t.insert(300, 0, 0);
        t.insert(309, 0, 0);
        CHECKS.badState("2 row at the first key", () -> t.makePart(300, 305, 0, 0));
        CHECKS.badState("2 row at the last key", () -> t.makePart(301, 310, 0, 0));
        CHECKS.due("2 refusals leave rows", 0, () -> t.leafOf(0));
        for (int key = 1; key <= 14; key++) {
            t.makePart(key, key + 1, 0, 0);
        }
        CHECKS.badState("2 sixteenth", () -> t.makePart(50, 51, 0, 0));
        CHECKS.badArgument("2 argument before the sixteenth", () -> t.makePart(50, 50, 0, 0));
        CHECKS.due("2 fifteen", 15, t::parts);
    }

    private static void promise03CarveOut() {
        ParcelledTable t = new ParcelledTable();
        t.insert(9, 0, 0);
        t.insert(10, 0, 1);
        t.insert(19, 1, 1);
        t.insert(20, 0, 0);
        CHECKS.due("3 takes the rows of its range", 2, () -> t.carveOut(10, 20, 1, 2));
        CHECKS.due("3 is a part", 1, t::parts);
        CHECKS.due("3 is attached", 0, () -> t.stateOf(1));
        CHECKS.due("3 leaves the row below", 0, () -> t.leafOf(0));
        CHECKS.due("3 has the first key", 11, () -> t.leafOf(1));
        CHECKS.due("3 has the last key", 10, () -> t.leafOf(2));
        CHECKS.due("3 leaves the row above", 0, () -> t.leafOf(3));
        CHECKS.no("3 leaves the index", t::isStale);
        CHECKS.due("3 keeps all rows", 4, t::rows);
        t.detach(1);
        t.insert(15, 0, 0);
        CHECKS.due("3 takes no row of a detached part", 1, () -> t.carveOut(10, 20, 0, 0));
        CHECKS.due("3 without rows", 0, () -> t.carveOut(500, 1000, 2, 5));
    }

    private static void promise03CarveOutRefuses() {
        ParcelledTable t = new ParcelledTable();
        t.insert(0, 0, 0);
        refusePartArguments("3", t::carveOut);
        t.makePart(100, 200, 0, 0);
        refuseOverlaps("3", t::carveOut);
        CHECKS.due("3 refusals leave rows", 0, () -> t.leafOf(0));
        for (int key = 1; key <= 14; key++) {
            t.carveOut(key, key + 1, 0, 0);
        }
        CHECKS.badState("3 sixteenth", () -> t.carveOut(0, 1, 0, 0));
        CHECKS.badArgument("3 argument before the sixteenth", () -> t.carveOut(0, 1, 3, 0));
        CHECKS.due("3 the sixteenth takes no row", 0, () -> t.leafOf(0));
    }

    private interface Making {
        int make(int from, int to, int kind, int detail);
    }

    private static void refusePartArguments(String promise, Making making) {
        int[][] wrong = {
            {-1, 5, 0, 0}, {1000, 1001, 0, 0}, {5, 5, 0, 0}, {5, 4, 0, 0}, {0, 1001, 0, 0},
            {0, 5, -1, 0}, {0, 5, 3, 0}, {0, 5, 3, 1}, {0, 5, 0, 1}, {0, 5, 0, -1},
            {0, 5, 1, 0}, {0, 5, 1, 1023}, {0, 5, 2, 0}, {0, 5, 2, 6},
            {Integer.MIN_VALUE, 5, 0, 0}, {0, Integer.MAX_VALUE, 0, 0},
            {0, 5, Integer.MAX_VALUE, 0}, {0, 5, 1, Integer.MIN_VALUE},
        };
        for (int[] a : wrong) {
            String call = promise + " refuses " + java.util.Arrays.toString(a);
            CHECKS.badArgument(call, () -> making.make(a[0], a[1], a[2], a[3]));
        }
    }

    // The part 1 must have the range from 100 to 200.
    private static void refuseOverlaps(String promise, Making making) {
        int[][] ranges = {{100, 200}, {99, 101}, {199, 201}, {120, 130}, {0, 1000}};
        for (int[] range : ranges) {
            String call = promise + " refuses the overlap " + java.util.Arrays.toString(range);
            CHECKS.badState(call, () -> making.make(range[0], range[1], 0, 0));
        }
    }

    private static void promise04Split() {
        ParcelledTable t = new ParcelledTable();
        t.makePart(10, 20, 1, 4);
        t.insert(14, 2, 5);
        t.insert(15, 2, 6);
        t.insert(15, 3, 7);
        CHECKS.due("4 split(1, 15)", 2, () -> t.split(1, 15));
        CHECKS.due("4 keeps the keys below", 10, () -> t.leafOf(0));
        CHECKS.due("4 gives the key itself away", 20, () -> t.leafOf(1));
        CHECKS.due("4 the kind is the same", 21, () -> t.leafOf(2));
        CHECKS.due("4 the lower range ends", 1, () -> t.partOf(14));
        CHECKS.due("4 the upper range begins", 2, () -> t.partOf(15));
        CHECKS.due("4 the upper range ends", 2, () -> t.partOf(19));
        CHECKS.due("4 behind it is the rest", 0, () -> t.partOf(20));
        CHECKS.due("4 is attached", 0, () -> t.stateOf(2));
        CHECKS.no("4 leaves the index", t::isStale);
        CHECKS.due("4 the part's own index goes along", 0, () -> t.findIn(1, 6));
        CHECKS.due("4 as many parts", 2, t::parts);
    }

    private static void promise04SplitRefuses() {
        ParcelledTable t = new ParcelledTable();
        t.makePart(10, 20, 2, 3);
        t.makePart(20, 30, 2, 3);
        CHECKS.badNumber("4 the rest", () -> t.split(0, 15));
        CHECKS.badNumber("4 no such part", () -> t.split(3, 15));
        CHECKS.badNumber("4 below all parts", () -> t.split(-1, 15));
        CHECKS.badArgument("4 at its first key", () -> t.split(1, 10));
        CHECKS.badArgument("4 behind its last key", () -> t.split(1, 20));
        CHECKS.badArgument("4 far off", () -> t.split(1, Integer.MAX_VALUE));
        t.merge(1, 2);
        CHECKS.badNumber("4 gone", () -> t.split(2, 25));
        CHECKS.badNumber("4 gone before at", () -> t.split(2, 5));
        t.detach(1);
        CHECKS.badState("4 detached", () -> t.split(1, 15));
        CHECKS.badArgument("4 at before detached", () -> t.split(1, 30));
        t.attach(1);
        for (int key = 100; key < 113; key++) {
            t.makePart(key, key + 1, 0, 0);
        }
        CHECKS.badState("4 sixteenth", () -> t.split(1, 15));
        CHECKS.due("4 refusals leave the range", 1, () -> t.partOf(29));
        CHECKS.badArgument("4 at before the sixteenth", () -> t.split(1, 10));
    }

    private static void promise05Merge() {
        ParcelledTable t = new ParcelledTable();
        t.makePart(20, 30, 2, 3);
        t.makePart(10, 20, 2, 3);
        t.insert(10, 0, 4);
        t.insert(25, 0, 4);
        t.insert(30, 0, 4);
        CHECKS.due("5 merge(2, 1)", 2, () -> t.merge(2, 1));
        CHECKS.due("5 the other is gone", 2, () -> t.stateOf(1));
        CHECKS.due("5 the part stays", 0, () -> t.stateOf(2));
        CHECKS.due("5 has the other range", 2, () -> t.partOf(29));
        CHECKS.due("5 keeps its own", 2, () -> t.partOf(10));
        CHECKS.due("5 has the other rows", 21, () -> t.leafOf(1));
        CHECKS.no("5 leaves the index", t::isStale);
        CHECKS.due("5 its own index", 2, () -> t.findIn(2, 4));
        CHECKS.due("5 parts made stay", 2, t::parts);
        CHECKS.due("5 a question reads three leaves", 3, () -> t.read(10, 29, 1));
        CHECKS.badState("5 no range is free", () -> t.makePart(25, 26, 0, 0));
    }

    private static void promise05MergeRefuses() {
        ParcelledTable t = new ParcelledTable();
        t.makePart(10, 20, 2, 3);
        t.makePart(20, 30, 2, 4);
        t.makePart(30, 40, 2, 4);
        t.makePart(41, 50, 2, 4);
        t.makePart(50, 60, 0, 0);
        t.makePart(60, 70, 1, 4);
        t.makePart(70, 80, 2, 4);
        CHECKS.badNumber("5 the rest", () -> t.merge(0, 1));
        CHECKS.badNumber("5 the rest as other", () -> t.merge(1, 0));
        CHECKS.badNumber("5 no such part", () -> t.merge(8, 1));
        CHECKS.badNumber("5 no such other", () -> t.merge(1, 8));
        CHECKS.badNumber("5 below all parts", () -> t.merge(1, -1));
        CHECKS.badState("5 with itself", () -> t.merge(1, 1));
        CHECKS.badState("5 another detail", () -> t.merge(1, 2));
        CHECKS.badState("5 the wrong way round", () -> t.merge(3, 2));
        CHECKS.badState("5 a gap", () -> t.merge(3, 4));
        CHECKS.badState("5 another kind", () -> t.merge(4, 5));
        CHECKS.badState("5 another kind, the same detail", () -> t.merge(6, 7));
        t.detach(3);
        CHECKS.badState("5 the other is detached", () -> t.merge(2, 3));
        CHECKS.badState("5 the part is detached", () -> t.merge(3, 2));
        CHECKS.badNumber("5 number before detached", () -> t.merge(3, 0));
        t.attach(3);
        t.detach(2);
        CHECKS.badState("5 the part before the other is detached", () -> t.merge(2, 3));
        t.attach(2);
        CHECKS.due("5 merge(2, 3)", 0, () -> t.merge(2, 3));
        CHECKS.badNumber("5 gone", () -> t.merge(2, 3));
        CHECKS.badNumber("5 gone as part", () -> t.merge(3, 2));
    }

    private static void promise06Detach() {
        ParcelledTable t = new ParcelledTable();
        t.makePart(10, 20, 0, 0);
        t.makePart(20, 30, 0, 0);
        t.makePart(30, 40, 0, 0);
        t.insert(10, 0, 7);
        t.insert(19, 0, 7);
        t.insert(20, 0, 7);
        CHECKS.badNumber("6 the rest", () -> t.detach(0));
        CHECKS.badNumber("6 no such part", () -> t.detach(4));
        CHECKS.badNumber("6 below all parts", () -> t.detach(-1));
        CHECKS.no("6 refusals leave the index", t::isStale);
        CHECKS.due("6 detach(1)", 2, () -> t.detach(1));
        CHECKS.due("6 is detached", 1, () -> t.stateOf(1));
        CHECKS.due("6 keeps its rows", 2, () -> t.rowsIn(1, 0));
        CHECKS.due("6 they leave the table", 1, t::rows);
        CHECKS.due("6 its keys are the rest's", 0, () -> t.partOf(10));
        CHECKS.yes("6 the index is stale", t::isStale);
        CHECKS.badState("6 twice", () -> t.detach(1));
        t.merge(2, 3);
        CHECKS.badNumber("6 gone", () -> t.detach(3));
    }

    private static void promise07Attach() {
        ParcelledTable t = new ParcelledTable();
        t.makePart(10, 20, 0, 0);
        t.makePart(20, 30, 0, 0);
        t.insert(10, 0, 7);
        t.insert(11, 0, 7);
        CHECKS.badNumber("7 the rest", () -> t.attach(0));
        CHECKS.badNumber("7 no such part", () -> t.attach(3));
        CHECKS.badNumber("7 below all parts", () -> t.attach(-1));
        CHECKS.badState("7 attached", () -> t.attach(1));
        CHECKS.no("7 refusals leave the index", t::isStale);
        t.detach(1);
        t.insert(19, 0, 7);
        CHECKS.badState("7 the rest has a row", () -> t.attach(1));
        t.change(2, 20, 0);
        t.insert(9, 0, 7);
        t.makePart(0, 5, 0, 0);
        t.makePart(19, 20, 0, 0);
        CHECKS.badState("7 overlaps", () -> t.attach(1));
        CHECKS.due("7 stays detached", 1, () -> t.stateOf(1));
        t.detach(4);
        t.buildIndex();
        CHECKS.due("7 attach(1)", 2, () -> t.attach(1));
        CHECKS.due("7 is attached", 0, () -> t.stateOf(1));
        CHECKS.due("7 its rows are back", 4, t::rows);
        CHECKS.due("7 its keys are its own", 1, () -> t.partOf(19));
        CHECKS.yes("7 the index is stale", t::isStale);
        CHECKS.badState("7 another detached one overlaps", () -> t.attach(4));
        t.merge(1, 2);
        CHECKS.badNumber("7 gone", () -> t.attach(2));
    }

    private static void promise08Exchange() {
        ParcelledTable t = new ParcelledTable();
        t.makePart(10, 20, 1, 1);
        t.insert(12, 0, 3);
        t.insert(13, 1, 3);
        t.insert(14, 1, 4);
        t.detach(1);
        t.makePart(12, 30, 2, 2);
        t.insert(13, 0, 5);
        t.buildIndex();
        CHECKS.due("8 exchange(2, 1)", 3, () -> t.exchange(2, 1));
        CHECKS.yes("8 the index is stale", t::isStale);
        CHECKS.due("8 the attached one has the rows", 21, () -> t.leafOf(0));
        CHECKS.due("8 by its own kind", 20, () -> t.leafOf(1));
        CHECKS.due("8 the detached one has the row", 10, () -> t.leafOf(3));
        CHECKS.due("8 ranges stay", 0, () -> t.partOf(11));
        CHECKS.due("8 states stay", 1, () -> t.stateOf(1));
        CHECKS.due("8 the table has the rows", 3, t::rows);
        CHECKS.due("8 the part's own index", 2, () -> t.findIn(2, 3));
        CHECKS.due("8 the other one's index", 1, () -> t.findIn(1, 5));
        CHECKS.due("8 back again", 1, () -> t.exchange(2, 1));
        CHECKS.due("8 back in the list", 11, () -> t.leafOf(1));
    }

    private static void promise08ExchangeRefuses() {
        ParcelledTable t = new ParcelledTable();
        t.makePart(10, 20, 0, 0);
        t.insert(10, 0, 1);
        t.detach(1);
        t.makePart(11, 21, 0, 0);
        t.makePart(21, 31, 0, 0);
        t.buildIndex();
        CHECKS.badNumber("8 the rest", () -> t.exchange(0, 1));
        CHECKS.badNumber("8 the rest as other", () -> t.exchange(2, 0));
        CHECKS.badNumber("8 no such part", () -> t.exchange(4, 1));
        CHECKS.badNumber("8 no such other", () -> t.exchange(2, -1));
        CHECKS.badState("8 the one is detached", () -> t.exchange(1, 2));
        CHECKS.badState("8 both are attached", () -> t.exchange(2, 3));
        CHECKS.badState("8 with itself", () -> t.exchange(2, 2));
        CHECKS.badState("8 with itself, detached", () -> t.exchange(1, 1));
        CHECKS.badState("8 a row of the detached one", () -> t.exchange(2, 1));
        t.remove(0);
        t.insert(20, 0, 1);
        CHECKS.badState("8 a row of the attached one", () -> t.exchange(2, 1));
        CHECKS.due("8 refusals leave rows", 20, () -> t.leafOf(1));
        CHECKS.no("8 refusals leave the index", t::isStale);
        t.merge(2, 3);
        CHECKS.badNumber("8 gone", () -> t.exchange(3, 1));
        CHECKS.badNumber("8 gone as other", () -> t.exchange(2, 3));
        t.remove(1);
        CHECKS.due("8 without rows", 0, () -> t.exchange(2, 1));
        CHECKS.yes("8 the index is stale without rows too", t::isStale);
    }

    private static void promise09Insert() {
        ParcelledTable t = new ParcelledTable();
        t.makePart(0, 100, 1, 1);
        CHECKS.due("9 the smallest", 0, () -> t.insert(0, 0, 0));
        CHECKS.due("9 the largest", 1, () -> t.insert(999, 9, 99));
        CHECKS.due("9 into the part", 10, () -> t.leafOf(0));
        CHECKS.due("9 into the rest", 0, () -> t.leafOf(1));
        int[][] wrong = {
            {-1, 0, 0}, {1000, 0, 0}, {0, -1, 0}, {0, 10, 0}, {0, 0, -1}, {0, 0, 100},
            {Integer.MIN_VALUE, 0, 0}, {0, Integer.MAX_VALUE, 0}, {0, 0, Integer.MIN_VALUE},
        };
        for (int[] a : wrong) {
            String call = "9 refuses " + java.util.Arrays.toString(a);
            CHECKS.badArgument(call, () -> t.insert(a[0], a[1], a[2]));
        }
        CHECKS.due("9 refusals insert none", 2, t::rows);
        t.remove(1);
        t.detach(1);
        CHECKS.due("9 numbers are not given again", 2, () -> t.insert(50, 1, 1));
        CHECKS.due("9 detached parts get none", 0, () -> t.leafOf(2));
        for (int number = 3; number < 200; number++) {
            int want = number;
            CHECKS.due("9 row " + number, want, () -> t.insert(500, 1, 1));
        }
        t.remove(199);
        CHECKS.badState("9 the 201st", () -> t.insert(0, 0, 0));
        CHECKS.badArgument("9 argument before the 201st", () -> t.insert(0, 0, 100));
        CHECKS.due("9 rows", 197, t::rows);
    }

    private static void promise10Change() {
        ParcelledTable t = new ParcelledTable();
        t.makePart(0, 10, 1, 6);
        t.makePart(10, 20, 2, 3);
        t.insert(5, 1, 8);
        CHECKS.no("10 the same leaf of the list", () -> t.change(0, 9, 2));
        CHECKS.yes("10 another leaf of the list", () -> t.change(0, 9, 3));
        CHECKS.due("10 lies there", 11, () -> t.leafOf(0));
        CHECKS.yes("10 another part, the same leaf", () -> t.change(0, 10, 3));
        CHECKS.due("10 lies in the part", 21, () -> t.leafOf(0));
        CHECKS.no("10 the same remainder", () -> t.change(0, 13, 0));
        CHECKS.yes("10 another remainder", () -> t.change(0, 14, 0));
        CHECKS.yes("10 the rest", () -> t.change(0, 999, 9));
        CHECKS.no("10 in the rest", () -> t.change(0, 20, 0));
        CHECKS.due("10 has its key and sort", 1, () -> t.countPlain(20, 20, 1));
        CHECKS.due("10 keeps its value", 1, () -> t.find(8));
        CHECKS.no("10 leaves the index", t::isStale);
        t.insert(0, 1, 0);
        t.insert(0, 1, 0);
        t.remove(2);
        t.detach(1);
        CHECKS.badNumber("10 no such row", () -> t.change(3, 0, 0));
        CHECKS.badNumber("10 below all rows", () -> t.change(-1, 0, 0));
        CHECKS.badNumber("10 removed", () -> t.change(2, 0, 0));
        CHECKS.badNumber("10 number before key", () -> t.change(2, -1, 0));
        CHECKS.badArgument("10 key", () -> t.change(0, 1000, 0));
        CHECKS.badArgument("10 key below", () -> t.change(0, -1, 0));
        CHECKS.badArgument("10 sort", () -> t.change(0, 0, 10));
        CHECKS.badArgument("10 sort below", () -> t.change(0, 0, -1));
        CHECKS.badArgument("10 key before detached", () -> t.change(1, 1000, 0));
        CHECKS.badState("10 detached", () -> t.change(1, 500, 0));
        CHECKS.due("10 refusals leave the row", 10, () -> t.leafOf(1));
        CHECKS.no("10 into the range of a detached part", () -> t.change(0, 5, 0));
    }

    private static void promise11Remove() {
        ParcelledTable t = new ParcelledTable();
        t.makePart(0, 10, 0, 0);
        t.insert(5, 0, 42);
        t.insert(5, 0, 43);
        t.insert(50, 0, 44);
        CHECKS.due("11 of the table", 44, () -> t.remove(2));
        CHECKS.due("11 rows", 2, t::rows);
        CHECKS.due("11 out of the wide index", 0, () -> t.find(44));
        CHECKS.no("11 leaves the index", t::isStale);
        t.detach(1);
        CHECKS.due("11 of a detached part", 43, () -> t.remove(1));
        CHECKS.due("11 rows of the part", 1, () -> t.rowsIn(1, 0));
        CHECKS.due("11 out of its own index", 0, () -> t.findIn(1, 43));
        CHECKS.badNumber("11 twice", () -> t.remove(2));
        CHECKS.badNumber("11 no such row", () -> t.remove(3));
        CHECKS.badNumber("11 below all rows", () -> t.remove(-1));
        CHECKS.badNumber("11 far above", () -> t.remove(Integer.MAX_VALUE));
        CHECKS.badNumber("11 at the limit", () -> t.remove(200));
    }

    private static void promise12Parts() {
        ParcelledTable t = new ParcelledTable();
        CHECKS.due("12 none", 0, t::parts);
        t.makePart(0, 10, 0, 0);
        t.carveOut(10, 20, 0, 0);
        CHECKS.due("12 two", 2, t::parts);
        t.split(1, 5);
        CHECKS.due("12 split counts", 3, t::parts);
        t.merge(1, 3);
        t.detach(2);
        CHECKS.due("12 gone and detached count", 3, t::parts);
    }

    private static void promise13StateOf() {
        ParcelledTable t = new ParcelledTable();
        t.makePart(0, 10, 0, 0);
        t.makePart(10, 20, 0, 0);
        CHECKS.due("13 the rest", 0, () -> t.stateOf(0));
        CHECKS.due("13 attached", 0, () -> t.stateOf(1));
        t.merge(1, 2);
        t.detach(1);
        CHECKS.due("13 detached", 1, () -> t.stateOf(1));
        CHECKS.due("13 gone", 2, () -> t.stateOf(2));
        CHECKS.badNumber("13 not made", () -> t.stateOf(3));
        CHECKS.badNumber("13 below", () -> t.stateOf(-1));
        CHECKS.badNumber("13 above all", () -> t.stateOf(16));
        CHECKS.badNumber("13 far above", () -> t.stateOf(Integer.MAX_VALUE));
    }

    private static void promise14PartOf() {
        ParcelledTable t = new ParcelledTable();
        t.makePart(10, 20, 0, 0);
        CHECKS.due("14 below", 0, () -> t.partOf(9));
        CHECKS.due("14 first", 1, () -> t.partOf(10));
        CHECKS.due("14 last", 1, () -> t.partOf(19));
        CHECKS.due("14 behind", 0, () -> t.partOf(20));
        t.detach(1);
        CHECKS.due("14 detached", 0, () -> t.partOf(10));
        t.makePart(5, 15, 0, 0);
        CHECKS.due("14 made over a detached one", 2, () -> t.partOf(10));
        CHECKS.badArgument("14 below all keys", () -> t.partOf(-1));
        CHECKS.badArgument("14 above all keys", () -> t.partOf(1000));
    }

    private static void promise15LeafOf() {
        ParcelledTable t = new ParcelledTable();
        t.makePart(0, 10, 0, 0);
        t.makePart(10, 20, 1, 512);
        t.makePart(20, 30, 2, 5);
        t.makePart(30, 40, 2, 1);
        t.insert(0, 9, 0);
        t.insert(10, 9, 0);
        t.insert(10, 8, 0);
        t.insert(20, 0, 0);
        t.insert(21, 0, 0);
        t.insert(39, 0, 0);
        t.insert(40, 0, 0);
        int[] want = {10, 20, 21, 33, 30, 40, 0};
        for (int number = 0; number < want.length; number++) {
            int row = number;
            CHECKS.due("15 leafOf(" + row + ")", want[row], () -> t.leafOf(row));
        }
        t.detach(3);
        CHECKS.due("15 of a detached part", 33, () -> t.leafOf(3));
        t.remove(3);
        CHECKS.badNumber("15 removed", () -> t.leafOf(3));
        CHECKS.badNumber("15 not inserted", () -> t.leafOf(7));
        CHECKS.badNumber("15 below", () -> t.leafOf(-1));
        CHECKS.badNumber("15 above all", () -> t.leafOf(200));
    }

    private static void promise16RowsIn() {
        ParcelledTable t = new ParcelledTable();
        t.makePart(0, 10, 1, 1);
        t.makePart(10, 20, 2, 5);
        t.makePart(20, 30, 2, 5);
        t.insert(1, 0, 0);
        t.insert(2, 0, 0);
        t.insert(3, 1, 0);
        t.insert(500, 1, 0);
        CHECKS.due("16 the list", 2, () -> t.rowsIn(1, 0));
        CHECKS.due("16 the others", 1, () -> t.rowsIn(1, 1));
        CHECKS.due("16 the rest", 1, () -> t.rowsIn(0, 0));
        CHECKS.due("16 the last leaf", 0, () -> t.rowsIn(2, 4));
        CHECKS.badNumber("16 a leaf too many of a list", () -> t.rowsIn(1, 2));
        CHECKS.badNumber("16 a leaf too many of a hash", () -> t.rowsIn(2, 5));
        CHECKS.badNumber("16 a leaf too many of the rest", () -> t.rowsIn(0, 1));
        CHECKS.badNumber("16 a leaf below", () -> t.rowsIn(1, -1));
        CHECKS.badNumber("16 no such part", () -> t.rowsIn(4, 0));
        CHECKS.badNumber("16 below all parts", () -> t.rowsIn(-1, 0));
        t.detach(1);
        CHECKS.due("16 detached", 2, () -> t.rowsIn(1, 0));
        t.merge(2, 3);
        CHECKS.badNumber("16 gone", () -> t.rowsIn(3, 0));
    }

    private static void promise17Rows() {
        ParcelledTable t = new ParcelledTable();
        t.makePart(0, 10, 0, 0);
        t.insert(1, 0, 0);
        t.insert(20, 0, 0);
        CHECKS.due("17 part and rest", 2, t::rows);
        t.detach(1);
        CHECKS.due("17 without the detached", 1, t::rows);
        t.remove(0);
        CHECKS.due("17 removed there", 1, t::rows);
        t.remove(1);
        CHECKS.due("17 removed here", 0, t::rows);
    }

    private interface Asking {
        int ask(int low, int high, int sorts);
    }

    private static void promise18Count() {
        countRows("18", askedTable()::count);
        refuseQuestions("18", new ParcelledTable()::count);
    }

    private static void promise19CountPlain() {
        countRows("19", askedTable()::countPlain);
        refuseQuestions("19", new ParcelledTable()::countPlain);
    }

    // Rows with keys 5, 15 and 25 in a list, a hash and the rest, and one that is detached.
    private static ParcelledTable askedTable() {
        ParcelledTable t = new ParcelledTable();
        t.makePart(100, 200, 0, 0);
        t.insert(105, 0, 0);
        t.detach(1);
        t.makePart(0, 10, 1, 6);
        t.makePart(10, 20, 2, 4);
        for (int key = 5; key <= 25; key += 10) {
            t.insert(key, 0, 0);
            t.insert(key, 1, 0);
            t.insert(key, 9, 0);
        }
        return t;
    }

    private static void countRows(String promise, Asking asking) {
        CHECKS.due(promise + " all", 9, () -> asking.ask(0, 999, ALL));
        CHECKS.due(promise + " one sort", 3, () -> asking.ask(0, 999, 2));
        CHECKS.due(promise + " the last sort", 3, () -> asking.ask(0, 999, 512));
        CHECKS.due(promise + " two sorts", 6, () -> asking.ask(0, 999, 3));
        CHECKS.due(promise + " no sort", 0, () -> asking.ask(0, 999, 0));
        CHECKS.due(promise + " both ends count", 6, () -> asking.ask(5, 15, ALL));
        CHECKS.due(promise + " just inside", 0, () -> asking.ask(6, 14, ALL));
        CHECKS.due(promise + " one key", 1, () -> asking.ask(25, 25, 1));
        CHECKS.due(promise + " not the detached", 0, () -> asking.ask(100, 199, ALL));
    }

    private static void refuseQuestions(String promise, Asking asking) {
        for (int[] a : wrongQuestions()) {
            String call = promise + " refuses " + java.util.Arrays.toString(a);
            CHECKS.badArgument(call, () -> asking.ask(a[0], a[1], a[2]));
        }
    }

    private static int[][] wrongQuestions() {
        return new int[][] {
            {-1, 5, 1}, {1000, 1000, 1}, {5, 4, 1}, {0, 1000, 1}, {0, 5, -1}, {0, 5, 1024},
            {Integer.MIN_VALUE, 0, 1}, {0, Integer.MAX_VALUE, 1}, {0, 0, Integer.MIN_VALUE},
        };
    }

    private static void promise20Read() {
        ParcelledTable t = askedTable();
        CHECKS.due("20 all leaves", 7, () -> t.read(0, 999, ALL));
        CHECKS.due("20 one leaf of the list", 6, () -> t.read(0, 999, 2));
        CHECKS.due("20 no sort", 0, () -> t.read(0, 999, 0));
        CHECKS.due("20 parts alone", 6, () -> t.read(0, 19, ALL));
        CHECKS.due("20 one key of the hash", 1, () -> t.read(10, 10, ALL));
        CHECKS.due("20 three keys of the hash", 3, () -> t.read(10, 12, ALL));
        CHECKS.due("20 list, hash and rest", 6, () -> t.read(9, 20, 2));
        CHECKS.due("20 the rest alone", 1, () -> t.read(20, 999, 4));
        refuseQuestions("20", t::read);
    }

    private static void promise21MattersByKind() {
        ParcelledTable t = new ParcelledTable();
        t.makePart(10, 20, 0, 0);
        t.makePart(20, 30, 1, 5);
        t.makePart(30, 40, 2, 5);
        CHECKS.yes("21 whole, first key", () -> t.matters(1, 0, 0, 10, 1));
        CHECKS.yes("21 whole, last key", () -> t.matters(1, 0, 19, 50, 1));
        CHECKS.no("21 whole, keys below", () -> t.matters(1, 0, 0, 9, ALL));
        CHECKS.no("21 whole, keys above", () -> t.matters(1, 0, 20, 999, ALL));
        CHECKS.no("21 whole, no sort", () -> t.matters(1, 0, 10, 19, 0));
        CHECKS.yes("21 list, a sort of it", () -> t.matters(2, 0, 20, 20, 6));
        CHECKS.no("21 list, other sorts", () -> t.matters(2, 0, 20, 20, ALL - 5));
        CHECKS.yes("21 others, another sort", () -> t.matters(2, 1, 29, 29, 6));
        CHECKS.no("21 others, sorts of the list", () -> t.matters(2, 1, 20, 29, 5));
        CHECKS.no("21 list, keys elsewhere", () -> t.matters(2, 0, 30, 40, ALL));
        // 7 * 30 + 3 is 213: the keys from 30 on lie in the leaves 3, 0, 2, 4 and 1.
        CHECKS.yes("21 hash, its key", () -> t.matters(3, 3, 30, 30, 1));
        CHECKS.no("21 hash, another key", () -> t.matters(3, 0, 30, 30, 1));
        CHECKS.yes("21 hash, the fifth key", () -> t.matters(3, 1, 30, 34, 1));
        CHECKS.no("21 hash, four keys", () -> t.matters(3, 1, 30, 33, 1));
        CHECKS.yes("21 hash, the last key", () -> t.matters(3, 1, 39, 999, 1));
        CHECKS.no("21 hash, a key behind its range", () -> t.matters(3, 3, 36, 45, 1));
        CHECKS.no("21 hash, a key ahead of its range", () -> t.matters(3, 0, 26, 30, 1));
        CHECKS.no("21 hash, no sort", () -> t.matters(3, 3, 30, 39, 0));
        t.detach(3);
        CHECKS.no("21 detached", () -> t.matters(3, 3, 30, 39, ALL));
    }

    private static void promise21MattersForRest() {
        ParcelledTable t = new ParcelledTable();
        t.makePart(20, 30, 0, 0);
        t.makePart(10, 20, 0, 0);
        t.makePart(31, 1000, 0, 0);
        CHECKS.yes("21 rest, below the parts", () -> t.matters(0, 0, 9, 29, 1));
        CHECKS.no("21 rest, within two parts", () -> t.matters(0, 0, 10, 29, ALL));
        CHECKS.yes("21 rest, the gap behind two parts", () -> t.matters(0, 0, 10, 30, 1));
        CHECKS.no("21 rest, to the last key", () -> t.matters(0, 0, 31, 999, ALL));
        CHECKS.no("21 rest, no sort", () -> t.matters(0, 0, 0, 999, 0));
        t.detach(2);
        CHECKS.yes("21 rest, keys of a detached part", () -> t.matters(0, 0, 15, 25, 1));

        ParcelledTable full = new ParcelledTable();
        for (int number = 0; number < 15; number++) {
            full.makePart(number * 2, number * 2 + 2, 0, 0);
        }
        CHECKS.no("21 rest, fifteen parts", () -> full.matters(0, 0, 0, 29, 1));
        CHECKS.yes("21 rest, behind fifteen parts", () -> full.matters(0, 0, 0, 30, 1));
    }

    private static void promise21MattersRefuses() {
        ParcelledTable t = new ParcelledTable();
        t.makePart(10, 20, 2, 5);
        t.makePart(20, 30, 2, 5);
        t.merge(1, 2);
        for (int[] a : wrongQuestions()) {
            String call = "21 refuses " + java.util.Arrays.toString(a);
            CHECKS.badArgument(call, () -> t.matters(1, 0, a[0], a[1], a[2]));
        }
        CHECKS.badNumber("21 no such leaf", () -> t.matters(1, 5, 0, 0, 1));
        CHECKS.badNumber("21 leaf below", () -> t.matters(1, -1, 0, 0, 1));
        CHECKS.badNumber("21 leaf of the rest", () -> t.matters(0, 1, 0, 0, 1));
        CHECKS.badNumber("21 gone", () -> t.matters(2, 0, 0, 0, 1));
        CHECKS.badNumber("21 no such part", () -> t.matters(3, 0, 0, 0, 1));
        CHECKS.badNumber("21 number before keys", () -> t.matters(3, 0, 5, 4, 1));
        t.detach(1);
        CHECKS.badNumber("21 no such leaf, detached", () -> t.matters(1, 5, 0, 0, 1));
        CHECKS.badArgument("21 keys, detached", () -> t.matters(1, 4, 5, 4, 1));
    }

    private static void promise22IsStale() {
        ParcelledTable t = new ParcelledTable();
        t.makePart(0, 10, 0, 0);
        t.carveOut(10, 20, 0, 0);
        t.split(1, 5);
        t.merge(1, 3);
        t.insert(1, 0, 0);
        t.change(0, 500, 0);
        t.remove(0);
        CHECKS.no("22 other calls leave it", t::isStale);
        t.detach(1);
        CHECKS.yes("22 detach", t::isStale);
        t.buildIndex();
        CHECKS.no("22 built", t::isStale);
        t.attach(1);
        CHECKS.yes("22 attach", t::isStale);
        t.buildIndex();
        t.detach(1);
        t.makePart(0, 10, 0, 0);
        CHECKS.yes("22 stays stale", t::isStale);
        t.buildIndex();
        t.exchange(4, 1);
        CHECKS.yes("22 exchange", t::isStale);
    }

    private static void promise23BuildIndex() {
        ParcelledTable t = new ParcelledTable();
        CHECKS.due("23 without rows", 0, t::buildIndex);
        t.makePart(0, 10, 0, 0);
        t.insert(1, 0, 5);
        t.insert(2, 0, 5);
        t.insert(20, 0, 5);
        CHECKS.due("23 not stale", 3, t::buildIndex);
        t.detach(1);
        CHECKS.due("23 stale", 1, t::buildIndex);
        CHECKS.no("23 is not stale then", t::isStale);
        CHECKS.due("23 has the table's rows", 1, () -> t.find(5));
    }

    private static void promise24Find() {
        ParcelledTable t = new ParcelledTable();
        t.makePart(0, 10, 0, 0);
        t.insert(1, 0, 0);
        t.insert(2, 0, 99);
        t.insert(20, 0, 99);
        CHECKS.due("24 find(99)", 2, () -> t.find(99));
        CHECKS.due("24 find(0)", 1, () -> t.find(0));
        CHECKS.due("24 find(50)", 0, () -> t.find(50));
        CHECKS.badArgument("24 below", () -> t.find(-1));
        CHECKS.badArgument("24 above", () -> t.find(100));
        t.split(1, 2);
        CHECKS.due("24 behind a split", 2, () -> t.find(99));
        t.detach(2);
        CHECKS.badState("24 stale", () -> t.find(99));
        CHECKS.badArgument("24 argument before stale", () -> t.find(100));
        t.buildIndex();
        CHECKS.due("24 built", 1, () -> t.find(99));
        t.insert(30, 0, 99);
        CHECKS.due("24 inserted", 2, () -> t.find(99));
        t.remove(1);
        CHECKS.due("24 removed from a detached part", 2, () -> t.find(99));
        t.remove(2);
        CHECKS.due("24 removed", 1, () -> t.find(99));
    }

    private static void promise25FindIn() {
        ParcelledTable t = new ParcelledTable();
        t.makePart(0, 10, 1, 1);
        t.makePart(10, 20, 1, 1);
        t.insert(1, 0, 7);
        t.insert(2, 1, 7);
        t.insert(3, 1, 8);
        t.insert(50, 1, 7);
        CHECKS.due("25 all leaves", 2, () -> t.findIn(1, 7));
        CHECKS.due("25 the rest", 1, () -> t.findIn(0, 7));
        CHECKS.due("25 another value", 1, () -> t.findIn(1, 8));
        CHECKS.due("25 none", 0, () -> t.findIn(1, 9));
        t.detach(1);
        CHECKS.due("25 detached, the wide index stale", 2, () -> t.findIn(1, 7));
        CHECKS.due("25 the rest, the wide index stale", 1, () -> t.findIn(0, 7));
        CHECKS.badArgument("25 value above", () -> t.findIn(1, 100));
        CHECKS.badArgument("25 value below", () -> t.findIn(0, -1));
        CHECKS.badNumber("25 no such part", () -> t.findIn(3, 7));
        CHECKS.badNumber("25 below all parts", () -> t.findIn(-1, 7));
        CHECKS.badNumber("25 number before value", () -> t.findIn(3, 100));
        t.attach(1);
        t.merge(1, 2);
        CHECKS.badNumber("25 gone", () -> t.findIn(2, 7));
    }
}
