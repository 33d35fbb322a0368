import java.util.ArrayList;
import java.util.List;
import java.util.function.Supplier;
import java.util.function.ToLongFunction;

/**
 * All that tells two tables apart: what the calls that ask answer, and what those that change
 * answer and leave behind. The calls are made for the tables of Scenes, and fit any other.
 */
final class Answers {
    // With 210 calls of a scene and a few of a test that stays under the 512 of one table.
    private static final int ASKS_OF_ONE_TABLE = 250;
    private static final int ALL = 1023;

    private record Call(String text, ToLongFunction<ParcelledTable> made) {
        String outcome(ParcelledTable table) {
            return Checks.outcome(() -> made.applyAsLong(table));
        }
    }

    private static final List<Call> ASKS = asks();
    private static final List<Call> FEW_ASKS = fewAsks();
    private static final List<Call> CHANGES = changes();

    private Answers() {}

    /** The tables that come must all be made in the same way. */
    static List<String> of(Supplier<ParcelledTable> tables) {
        List<String> outcomes = new ArrayList<>();
        for (int first = 0; first < ASKS.size(); first += ASKS_OF_ONE_TABLE) {
            int end = Math.min(ASKS.size(), first + ASKS_OF_ONE_TABLE);
            addOutcomes(ASKS.subList(first, end), tables.get(), outcomes);
        }
        for (Call change : CHANGES) {
            ParcelledTable table = tables.get();
            outcomes.add(change.outcome(table));
            addOutcomes(FEW_ASKS, table, outcomes);
        }
        return outcomes;
    }

    /** The first outcome that is not as due, or "" if all are. */
    static String difference(List<String> due, List<String> got) {
        for (int i = 0; i < due.size(); i++) {
            if (!due.get(i).equals(got.get(i))) {
                return "then " + text(i) + " answered " + got.get(i) + ", due is " + due.get(i);
            }
        }
        return "";
    }

    private static String text(int outcome) {
        if (outcome < ASKS.size()) {
            return ASKS.get(outcome).text();
        }
        int behindAsks = outcome - ASKS.size();
        String change = CHANGES.get(behindAsks / (FEW_ASKS.size() + 1)).text();
        int ask = behindAsks % (FEW_ASKS.size() + 1) - 1;
        return ask < 0 ? change : change + " and " + FEW_ASKS.get(ask).text();
    }

    private static void addOutcomes(List<Call> calls, ParcelledTable table, List<String> outcomes) {
        for (Call call : calls) {
            outcomes.add(call.outcome(table));
        }
    }

    private static void add(List<Call> calls, String text, ToLongFunction<ParcelledTable> made) {
        calls.add(new Call(text, made));
    }

    private static long number(boolean answer) {
        return answer ? 1 : 0;
    }

    private static List<Call> asks() {
        List<Call> calls = new ArrayList<>();
        askTable(calls);
        for (int key = 0; key < 1000; key++) {
            askKey(calls, key);
        }
        for (int part = 0; part <= 15; part++) {
            askPart(calls, part);
        }
        for (int row = 0; row <= 200; row++) {
            askRow(calls, row);
        }
        for (int value = 0; value < 100; value++) {
            askValue(calls, value);
        }
        return calls;
    }

    // Enough to see what a change did to the tables of Scenes, and few enough for one table.
    private static List<Call> fewAsks() {
        List<Call> calls = new ArrayList<>();
        askTable(calls);
        for (int ten = 0; ten < 1000; ten += ten == 90 ? 900 : 10) {
            for (int key : new int[] {ten, ten + 2, ten + 5, ten + 8, ten + 9}) {
                add(calls, "partOf(" + key + ")", t -> t.partOf(key));
            }
        }
        for (int part = 0; part <= 15; part++) {
            int asked = part;
            add(calls, "stateOf(" + part + ")", t -> t.stateOf(asked));
            add(calls, "rowsIn(" + part + ", 0)", t -> t.rowsIn(asked, 0));
        }
        for (int row = 0; row <= Scenes.ROW_NOT_INSERTED; row++) {
            askRow(calls, row);
        }
        for (int value = 0; value < 10; value++) {
            askValue(calls, value);
        }
        return calls;
    }

    private static void askTable(List<Call> calls) {
        add(calls, "parts()", ParcelledTable::parts);
        add(calls, "rows()", ParcelledTable::rows);
        add(calls, "isStale()", t -> number(t.isStale()));
        for (int sort = 0; sort < 10; sort++) {
            int sorts = 1 << sort;
            add(calls, "count(0, 999, " + sorts + ")", t -> t.count(0, 999, sorts));
            add(calls, "read(0, 999, " + sorts + ")", t -> t.read(0, 999, sorts));
        }
    }

    private static void askKey(List<Call> calls, int key) {
        add(calls, "partOf(" + key + ")", t -> t.partOf(key));
        String question = "(" + key + ", " + key + ", " + ALL + ")";
        add(calls, "countPlain" + question, t -> t.countPlain(key, key, ALL));
    }

    private static void askPart(List<Call> calls, int part) {
        add(calls, "stateOf(" + part + ")", t -> t.stateOf(part));
        for (int leaf = 0; leaf <= 5; leaf++) {
            int asked = leaf;
            add(calls, "rowsIn(" + part + ", " + leaf + ")", t -> t.rowsIn(part, asked));
        }
        for (int sort = 0; sort < 10; sort++) {
            int sorts = 1 << sort;
            String question = "(" + part + ", 0, 0, 999, " + sorts + ")";
            add(calls, "matters" + question, t -> number(t.matters(part, 0, 0, 999, sorts)));
        }
        for (int value = 0; value < 10; value++) {
            int asked = value;
            add(calls, "findIn(" + part + ", " + value + ")", t -> t.findIn(part, asked));
        }
    }

    private static void askRow(List<Call> calls, int row) {
        add(calls, "leafOf(" + row + ")", t -> t.leafOf(row));
    }

    private static void askValue(List<Call> calls, int value) {
        add(calls, "find(" + value + ")", t -> t.find(value));
    }

    private static List<Call> changes() {
        List<Call> calls = new ArrayList<>();
        add(calls, "insert(65, 0, 3)", t -> t.insert(65, 0, 3));
        add(calls, "makePart(300, 310, 0, 0)", t -> t.makePart(300, 310, 0, 0));
        add(calls, "carveOut(60, 90, 2, 5)", t -> t.carveOut(60, 90, 2, 5));
        add(calls, "buildIndex()", ParcelledTable::buildIndex);
        add(calls, "remove(" + Scenes.ROW_OVER_AWAY + "), attach(" + Scenes.AWAY + ")", t -> {
            t.remove(Scenes.ROW_OVER_AWAY);
            return t.attach(Scenes.AWAY);
        });
        add(calls, "detach(" + Scenes.WHOLE + "), attach(" + Scenes.AWAY_EMPTY + ")", t -> {
            t.detach(Scenes.WHOLE);
            return t.attach(Scenes.AWAY_EMPTY);
        });
        for (int part = 1; part <= Scenes.NOT_MADE; part++) {
            changePart(calls, part);
        }
        for (int row = 0; row <= Scenes.ROW_NOT_INSERTED; row++) {
            int changed = row;
            add(calls, "change(" + row + ", 39, 1)", t -> number(t.change(changed, 39, 1)));
            add(calls, "remove(" + row + ")", t -> t.remove(changed));
        }
        return calls;
    }

    private static void changePart(List<Call> calls, int part) {
        add(calls, "detach(" + part + ")", t -> t.detach(part));
        add(calls, "attach(" + part + ")", t -> t.attach(part));
        int at = 10 * part - 5;
        add(calls, "split(" + part + ", " + at + ")", t -> t.split(part, at));
        add(calls, "merge(" + part + ", " + (part + 1) + ")", t -> t.merge(part, part + 1));
        add(calls, "exchange(" + part + ", " + Scenes.AWAY_EMPTY + ")", t -> t.exchange(part, Scenes.AWAY_EMPTY));
    }
}
