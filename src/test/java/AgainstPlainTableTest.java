import java.lang.reflect.InvocationTargetException;
import java.lang.reflect.Method;
import java.lang.reflect.Modifier;
import java.util.ArrayList;
import java.util.Comparator;
import java.util.List;
import java.util.TreeMap;

/** Long runs of calls, each answer compared with that of PlainTable; the same runs every time. */
public final class AgainstPlainTableTest {
    private static final int RUNS = 1500;
    private static final int CALLS = 512;
    private static final int LEAST_TIMES = 50;

    private final Checks checks = new Checks("AgainstPlainTableTest");
    private final List<Method> calls = new ArrayList<>();
    private final TreeMap<String, Integer> times = new TreeMap<>();
    private long seed = 20261119;
    private int keys;
    private int partsBound;
    private int rowsBound;
    private int wrongOneIn;
    // The parts of the last split: two parts that lie side by side are rare otherwise.
    private int splitPart;
    private int splitOff;

    public static void main(String[] args) throws ReflectiveOperationException {
        new AgainstPlainTableTest().all();
    }

    private void all() throws ReflectiveOperationException {
        for (Method method : ParcelledTable.class.getDeclaredMethods()) {
            if (Modifier.isPublic(method.getModifiers())) {
                calls.add(method);
            }
        }
        calls.sort(Comparator.comparing(Method::getName));
        for (int run = 0; run < RUNS; run++) {
            oneRun(run);
        }
        everyOutcomeWasSeen();
        checks.end();
    }

    // Few keys make parts touch and overlap often; many rows reach the limit of 200.
    private void oneRun(int run) throws ReflectiveOperationException {
        keys = new int[] {12, 30, 100, 1000}[run % 4];
        partsBound = 2;
        rowsBound = 2;
        wrongOneIn = 8 + run % 5 * 10;
        boolean manyRows = run % 3 == 0;
        ParcelledTable table = new ParcelledTable();
        PlainTable plain = new PlainTable();
        for (int call = 0; call < CALLS; call++) {
            Method method = manyRows && below(2) == 0 ? named("insert") : calls.get(below(calls.size()));
            Object[] arguments = argumentsFor(method);
            String got = outcome(method, table, arguments);
            Method due = PlainTable.class.getMethod(method.getName(), method.getParameterTypes());
            String want = outcome(due, plain, arguments);
            String what = "run " + run + ", call " + call + ", " + method.getName() + java.util.Arrays.toString(arguments);
            checks.report(what, want, got);
            learn(method.getName(), arguments, got);
        }
    }

    private void learn(String name, Object[] arguments, String got) {
        boolean thrown = got.startsWith("throws.");
        times.merge(name + " " + (thrown ? got : "answers"), 1, Integer::sum);
        if (thrown) {
            return;
        }
        switch (name) {
            case "split":
                splitPart = (Integer) arguments[0];
                splitOff = Integer.parseInt(got);
                partsBound++;
                break;
            case "makePart":
            case "carveOut":
                partsBound++;
                break;
            case "insert":
                rowsBound++;
                break;
            default:
        }
    }

    private Method named(String name) {
        for (Method method : calls) {
            if (method.getName().equals(name)) {
                return method;
            }
        }
        throw new IllegalStateException("no call of the name " + name);
    }

    private void everyOutcomeWasSeen() {
        for (Method method : calls) {
            seen(method.getName() + " answers");
            for (Class<?> thrown : method.getExceptionTypes()) {
                seen(method.getName() + " throws." + thrown.getSimpleName());
            }
        }
    }

    private void seen(String outcome) {
        int found = times.getOrDefault(outcome, 0);
        checks.report(outcome + " was seen often", "true", Boolean.toString(found >= LEAST_TIMES));
    }

    private Object[] argumentsFor(Method method) {
        switch (method.getName()) {
            case "makePart":
            case "carveOut":
                return newPart();
            case "split":
                return new Object[] {part(), key()};
            case "merge":
                return below(2) == 0 ? new Object[] {splitPart, splitOff} : new Object[] {part(), part()};
            case "exchange":
                return new Object[] {part(), part()};
            case "insert":
                return new Object[] {key(), sort(), value()};
            case "change":
                return new Object[] {row(), key(), sort()};
            case "remove":
            case "leafOf":
                return new Object[] {row()};
            case "partOf":
                return new Object[] {key()};
            case "rowsIn":
                return new Object[] {part(), leaf()};
            case "count":
            case "countPlain":
            case "read":
                return question();
            case "matters":
                Object[] asked = question();
                return new Object[] {part(), leaf(), asked[0], asked[1], asked[2]};
            case "find":
                return new Object[] {value()};
            case "findIn":
                return new Object[] {part(), value()};
            case "detach":
            case "attach":
            case "stateOf":
                return new Object[] {part()};
            default:
                return new Object[0];
        }
    }

    private Object[] newPart() {
        int from = key();
        int to = from + (below(wrongOneIn) == 0 ? below(3) - 1 : 1 + below(Math.max(2, keys / 4)));
        int kind = below(wrongOneIn) == 0 ? strange(3) : below(3);
        int detail = new int[] {0, 1 + below(1022), 1 + below(5)}[below(8) == 0 ? below(3) : Math.floorMod(kind, 3)];
        return new Object[] {from, to, kind, detail};
    }

    private Object[] question() {
        int low = key();
        int high = below(wrongOneIn) == 0 ? key() : low + below(Math.max(2, keys / 3));
        int sorts = below(3) == 0 ? 1 << below(10) : below(1024);
        return new Object[] {low, high, below(wrongOneIn) == 0 ? strange(1024) : sorts};
    }

    private int key() {
        if (below(wrongOneIn) == 0) {
            return strange(1000);
        }
        // The last keys are as likely as the first ones, so that both ends of the table are met.
        int key = below(keys);
        return below(4) == 0 ? 999 - key : key;
    }

    private int part() {
        return below(wrongOneIn) == 0 ? strange(16) : below(partsBound);
    }

    private int leaf() {
        return below(wrongOneIn) == 0 ? strange(5) : below(3);
    }

    private int row() {
        return below(wrongOneIn) == 0 ? strange(200) : below(rowsBound);
    }

    private int sort() {
        return below(wrongOneIn) == 0 ? strange(10) : below(10);
    }

    // A few values, so that most of them are met.
    private int value() {
        return below(wrongOneIn) == 0 ? strange(100) : below(5) * 24;
    }

    private int strange(int bound) {
        int[] values = {-1, bound, bound - 1, 0, bound + 1, Integer.MAX_VALUE, Integer.MIN_VALUE, -bound};
        return values[below(values.length)];
    }

    private int below(int bound) {
        seed = seed * 6364136223846793005L + 1442695040888963407L;
        return (int) ((seed >>> 33) % bound);
    }

    private static String outcome(Method method, Object table, Object[] arguments) throws IllegalAccessException {
        try {
            return method.invoke(table, arguments).toString();
        } catch (InvocationTargetException thrown) {
            return "throws." + thrown.getCause().getClass().getSimpleName();
        }
    }
}
