/** A table in parts. The document ../shared/DOC.md says what every call must do. */
public final class ParcelledTable {
    public static final int NONE = -1;

    private static final int KEYS = 1000;
    private static final int SORTS = 10;
    private static final int ALL_SORTS = 1023;
    private static final int VALUES = 100;

    private static final int MOST_PARTS = 15;
    private static final int MOST_ROWS = 200;

    private static final int WHOLE = 0;
    private static final int BY_LIST = 1;
    private static final int BY_HASH = 2;
    private static final int LIST_LEAVES = 2;
    private static final int MOST_HASH_LEAVES = 5;

    private static final int ATTACHED = 0;
    private static final int DETACHED = 1;
    private static final int GONE = 2;

    private final Part rest;
    /** The parts by number, the rest first; null where none was made yet. */
    private final Part[] allParts;
    private int partsMade;
    /** The rows by number; null where none was inserted yet, or it was removed. */
    private final Row[] allRows;
    private int rowsInserted;
    private boolean stale;

    public ParcelledTable() {
        // The rest has an empty range, so that it neither covers a key nor overlaps a part.
        rest = new Part(0, 0, 0, WHOLE, 0);
        allParts = new Part[MOST_PARTS + 1];
        allParts[0] = rest;
        allRows = new Row[MOST_ROWS];
    }

    // ---- parts

    public int makePart(int from, int to, int kind, int detail)
            throws IllegalArgumentException, IllegalStateException {
        Part part = plannedPart(from, to, kind, detail);
        refuseOverlap(part);
        refuseRowsOfRest(part);
        keepPart(part);
        return part.number;
    }

    public int carveOut(int from, int to, int kind, int detail)
            throws IllegalArgumentException, IllegalStateException {
        Part part = plannedPart(from, to, kind, detail);
        refuseOverlap(part);
        keepPart(part);
        moveRows(rest, part);
        return rowsOf(part);
    }

    public int split(int part, int at)
            throws IndexOutOfBoundsException, IllegalArgumentException, IllegalStateException {
        Part lower = livingPartWithRange(part);
        if (at <= lower.from || at >= lower.to) {
            throw new IllegalArgumentException("the part can not be split at this key");
        }
        refuseUnlessAttached(lower);
        Part upper = plannedPart(at, lower.to, lower.kind, lower.detail);
        keepPart(upper);
        lower.to = at;
        moveRows(lower, upper);
        return upper.number;
    }

    public int merge(int part, int other) throws IndexOutOfBoundsException, IllegalStateException {
        Part lower = livingPartWithRange(part);
        Part upper = livingPartWithRange(other);
        refuseUnlessAttached(lower);
        refuseUnlessAttached(upper);
        if (upper.from != lower.to) {
            throw new IllegalStateException("the other part does not begin where the part ends");
        }
        if (upper.kind != lower.kind || upper.detail != lower.detail) {
            throw new IllegalStateException("kind or detail are not the same");
        }
        lower.to = upper.to;
        moveRows(upper, lower);
        upper.state = GONE;
        return rowsOf(lower);
    }

    public int detach(int part) throws IndexOutOfBoundsException, IllegalStateException {
        Part leaving = livingPartWithRange(part);
        refuseUnlessAttached(leaving);
        leaving.state = DETACHED;
        stale = true;
        return rowsOf(leaving);
    }

    public int attach(int part) throws IndexOutOfBoundsException, IllegalStateException {
        Part coming = livingPartWithRange(part);
        refuseUnlessDetached(coming);
        refuseOverlap(coming);
        refuseRowsOfRest(coming);
        coming.state = ATTACHED;
        stale = true;
        return rowsOf(coming);
    }

    public int exchange(int part, int other) throws IndexOutOfBoundsException, IllegalStateException {
        Part attached = livingPartWithRange(part);
        Part detached = livingPartWithRange(other);
        refuseUnlessAttached(attached);
        refuseUnlessDetached(detached);
        refuseForeignRows(attached, detached);
        refuseForeignRows(detached, attached);
        swapRows(attached, detached);
        stale = true;
        return rowsOf(attached);
    }

    // ---- rows

    public int insert(int key, int sort, int value)
            throws IllegalArgumentException, IllegalStateException {
        checkKey(key);
        checkSort(sort);
        checkValue(value);
        int number = rowsInserted;
        if (number >= allRows.length) {
            throw new IllegalStateException("200 rows were inserted");
        }
        allRows[number] = new Row(key, sort, value, holderOf(key));
        rowsInserted = number + 1;
        return number;
    }

    public boolean change(int row, int key, int sort)
            throws IndexOutOfBoundsException, IllegalArgumentException, IllegalStateException {
        Row changed = presentRow(row);
        checkKey(key);
        checkSort(sort);
        refuseUnlessAttached(changed.part);
        int before = changed.place();
        changed.key = key;
        changed.sort = sort;
        changed.part = holderOf(key);
        return changed.place() != before;
    }

    public int remove(int row) throws IndexOutOfBoundsException {
        Row removed = presentRow(row);
        allRows[row] = null;
        return removed.value;
    }

    // ---- what is asked: parts and rows

    public int parts() {
        return partsMade;
    }

    public int stateOf(int part) throws IndexOutOfBoundsException {
        return knownPart(part).state;
    }

    public int partOf(int key) throws IllegalArgumentException {
        checkKey(key);
        return holderOf(key).number;
    }

    public int leafOf(int row) throws IndexOutOfBoundsException {
        return presentRow(row).place();
    }

    public int rowsIn(int part, int leaf) throws IndexOutOfBoundsException {
        Part asked = livingPartWithLeaf(part, leaf);
        int found = 0;
        for (Row row : allRows) {
            if (row != null && row.liesIn(asked, leaf)) {
                found++;
            }
        }
        return found;
    }

    public int rows() {
        int found = 0;
        for (Row row : allRows) {
            if (row != null && row.isInTable()) {
                found++;
            }
        }
        return found;
    }

    // ---- what is asked: questions

    public int count(int low, int high, int sorts) throws IllegalArgumentException {
        Question question = checkedQuestion(low, high, sorts);
        int found = 0;
        for (Part part : allParts) {
            if (part != null) {
                found += countInPart(part, question);
            }
        }
        return found;
    }

    public int countPlain(int low, int high, int sorts) throws IllegalArgumentException {
        Question question = checkedQuestion(low, high, sorts);
        int found = 0;
        for (Row row : allRows) {
            if (row != null && row.isInTable() && row.fits(question)) {
                found++;
            }
        }
        return found;
    }

    public int read(int low, int high, int sorts) throws IllegalArgumentException {
        Question question = checkedQuestion(low, high, sorts);
        int leaves = 0;
        for (Part part : allParts) {
            if (part != null) {
                leaves += leavesThatMayMatter(part, question);
            }
        }
        return leaves;
    }

    public boolean matters(int part, int leaf, int low, int high, int sorts)
            throws IndexOutOfBoundsException, IllegalArgumentException {
        Part asked = livingPartWithLeaf(part, leaf);
        return mayMatter(asked, leaf, checkedQuestion(low, high, sorts));
    }

    // ---- indexes

    public boolean isStale() {
        return stale;
    }

    public int buildIndex() {
        stale = false;
        return rows();
    }

    // A wide index that is not stale always agrees with the rows, so that the rows stand in for it.
    public int find(int value) throws IllegalArgumentException, IllegalStateException {
        checkValue(value);
        if (stale) {
            throw new IllegalStateException("the wide index is stale");
        }
        int found = 0;
        for (Row row : allRows) {
            if (row != null && row.isInTable() && row.value == value) {
                found++;
            }
        }
        return found;
    }

    public int findIn(int part, int value) throws IndexOutOfBoundsException, IllegalArgumentException {
        Part asked = livingPart(part);
        checkValue(value);
        int found = 0;
        for (Row row : allRows) {
            if (row != null && row.part == asked && row.value == value) {
                found++;
            }
        }
        return found;
    }

    // ---- what calls refuse: arguments

    private static void checkKey(int key) {
        if (key < 0 || key >= KEYS) {
            throw new IllegalArgumentException("key is out of range");
        }
    }

    private static void checkSort(int sort) {
        if (sort < 0 || sort >= SORTS) {
            throw new IllegalArgumentException("sort is out of range");
        }
    }

    private static void checkValue(int value) {
        if (value < 0 || value >= VALUES) {
            throw new IllegalArgumentException("value is out of range");
        }
    }

    private static void checkRange(int from, int to) {
        checkKey(from);
        if (to <= from || to > KEYS) {
            throw new IllegalArgumentException("to is out of range");
        }
    }

    private static void checkKind(int kind, int detail) {
        if (kind != WHOLE && kind != BY_LIST && kind != BY_HASH) {
            throw new IllegalArgumentException("kind is out of range");
        }
        if (detail < leastDetail(kind) || detail > mostDetail(kind)) {
            throw new IllegalArgumentException("detail is out of range");
        }
    }

    private static int leastDetail(int kind) {
        return kind == WHOLE ? 0 : 1;
    }

    private static int mostDetail(int kind) {
        switch (kind) {
            case BY_LIST:
                // A list of all sorts would leave the leaf of the others without any.
                return ALL_SORTS - 1;
            case BY_HASH:
                return MOST_HASH_LEAVES;
            default:
                return 0;
        }
    }

    private static Question checkedQuestion(int low, int high, int sorts) {
        checkKey(low);
        if (high < low || high >= KEYS) {
            throw new IllegalArgumentException("high is out of range");
        }
        if (sorts < 0 || sorts > ALL_SORTS) {
            throw new IllegalArgumentException("sorts is out of range");
        }
        return new Question(low, high, sorts);
    }

    // ---- what calls refuse: numbers of parts and rows

    private Part knownPart(int number) {
        Part part = number >= 0 && number < allParts.length ? allParts[number] : null;
        if (part == null) {
            throw new IndexOutOfBoundsException("there is no such part");
        }
        return part;
    }

    private Part livingPart(int number) {
        Part part = knownPart(number);
        if (part.state == GONE) {
            throw new IndexOutOfBoundsException("the part is gone");
        }
        return part;
    }

    private Part livingPartWithRange(int number) {
        Part part = livingPart(number);
        if (part == rest) {
            throw new IndexOutOfBoundsException("the part is the rest");
        }
        return part;
    }

    private Part livingPartWithLeaf(int number, int leaf) {
        Part part = livingPart(number);
        if (leaf < 0 || leaf >= part.leaves()) {
            throw new IndexOutOfBoundsException("the part has no such leaf");
        }
        return part;
    }

    private Row presentRow(int number) {
        Row row = number >= 0 && number < allRows.length ? allRows[number] : null;
        if (row == null) {
            throw new IndexOutOfBoundsException("there is no such row, or it was removed");
        }
        return row;
    }

    // ---- what calls refuse: how the parts stand

    private static void refuseUnlessAttached(Part part) {
        if (part.state != ATTACHED) {
            throw new IllegalStateException("the part is not attached");
        }
    }

    private static void refuseUnlessDetached(Part part) {
        if (part.state != DETACHED) {
            throw new IllegalStateException("the part is not detached");
        }
    }

    private void refuseOverlap(Part coming) {
        for (Part part : allParts) {
            if (part != null && part.state == ATTACHED && part.overlaps(coming)) {
                throw new IllegalStateException("the range overlaps that of an attached part");
            }
        }
    }

    private void refuseRowsOfRest(Part coming) {
        for (Row row : allRows) {
            if (row != null && row.part == rest && coming.covers(row.key)) {
                throw new IllegalStateException("the rest has a row with a key of the range");
            }
        }
    }

    private void refuseForeignRows(Part source, Part target) {
        for (Row row : allRows) {
            if (row != null && row.part == source && !target.covers(row.key)) {
                throw new IllegalStateException("a row has a key outside the range it would come to");
            }
        }
    }

    // ---- parts and their rows

    private Part plannedPart(int from, int to, int kind, int detail) {
        checkRange(from, to);
        checkKind(kind, detail);
        return new Part(partsMade + 1, from, to, kind, detail);
    }

    // This is the last test of a call and its first change, so that a refusal leaves all as it was.
    private void keepPart(Part part) {
        if (part.number >= allParts.length) {
            throw new IllegalStateException("15 parts were made");
        }
        allParts[part.number] = part;
        partsMade = part.number;
    }

    private Part holderOf(int key) {
        for (Part part : allParts) {
            if (part != null && part.state == ATTACHED && part.covers(key)) {
                return part;
            }
        }
        return rest;
    }

    private void moveRows(Part source, Part target) {
        for (Row row : allRows) {
            if (row != null && row.part == source && target.covers(row.key)) {
                row.part = target;
            }
        }
    }

    private void swapRows(Part one, Part other) {
        for (Row row : allRows) {
            if (row == null) {
                continue;
            }
            if (row.part == one) {
                row.part = other;
            } else if (row.part == other) {
                row.part = one;
            }
        }
    }

    private int rowsOf(Part part) {
        int found = 0;
        for (Row row : allRows) {
            if (row != null && row.part == part) {
                found++;
            }
        }
        return found;
    }

    // ---- leaves and questions

    private boolean mayMatter(Part part, int leaf, Question question) {
        if (part.state != ATTACHED || question.sorts == 0) {
            return false;
        }
        if (part == rest) {
            return restMayHold(question.low, question.high);
        }
        return part.mayHold(leaf, question);
    }

    // Goes from the end of one attached part to the next: looking at every key would be far dearer.
    private boolean restMayHold(int low, int high) {
        int key = low;
        for (int hops = 0; hops <= MOST_PARTS && key <= high; hops++) {
            Part holder = holderOf(key);
            if (holder == rest) {
                return true;
            }
            key = holder.to;
        }
        return false;
    }

    private int leavesThatMayMatter(Part part, Question question) {
        int found = 0;
        for (int leaf = 0; leaf < part.leaves(); leaf++) {
            if (mayMatter(part, leaf, question)) {
                found++;
            }
        }
        return found;
    }

    private int countInPart(Part part, Question question) {
        int found = 0;
        for (int leaf = 0; leaf < part.leaves(); leaf++) {
            if (mayMatter(part, leaf, question)) {
                found += countInLeaf(part, leaf, question);
            }
        }
        return found;
    }

    private int countInLeaf(Part part, int leaf, Question question) {
        int found = 0;
        for (Row row : allRows) {
            if (row != null && row.liesIn(part, leaf) && row.fits(question)) {
                found++;
            }
        }
        return found;
    }

    private static boolean hasSort(int sorts, int sort) {
        return (sorts >> sort & 1) == 1;
    }

    private static final class Question {
        final int low;
        final int high;
        final int sorts;

        Question(int low, int high, int sorts) {
            this.low = low;
            this.high = high;
            this.sorts = sorts;
        }
    }

    private static final class Row {
        int key;
        int sort;
        final int value;
        Part part;

        Row(int key, int sort, int value, Part part) {
            this.key = key;
            this.sort = sort;
            this.value = value;
            this.part = part;
        }

        boolean isInTable() {
            return part.state == ATTACHED;
        }

        boolean liesIn(Part asked, int leaf) {
            return part == asked && part.leafFor(key, sort) == leaf;
        }

        boolean fits(Question question) {
            return key >= question.low && key <= question.high && hasSort(question.sorts, sort);
        }

        int place() {
            return 10 * part.number + part.leafFor(key, sort);
        }
    }

    private static final class Part {
        final int number;
        final int from;
        int to;
        final int kind;
        final int detail;
        int state;

        Part(int number, int from, int to, int kind, int detail) {
            this.number = number;
            this.from = from;
            this.to = to;
            this.kind = kind;
            this.detail = detail;
            this.state = ATTACHED;
        }

        boolean covers(int key) {
            return key >= from && key < to;
        }

        boolean overlaps(Part other) {
            return from < other.to && other.from < to;
        }

        int leaves() {
            switch (kind) {
                case BY_LIST:
                    return LIST_LEAVES;
                case BY_HASH:
                    return detail;
                default:
                    return 1;
            }
        }

        int leafFor(int key, int sort) {
            switch (kind) {
                case BY_LIST:
                    return hasSort(detail, sort) ? 0 : 1;
                case BY_HASH:
                    return leafByHash(key);
                default:
                    return 0;
            }
        }

        boolean mayHold(int leaf, Question question) {
            int first = Math.max(from, question.low);
            int last = Math.min(to - 1, question.high);
            if (first > last) {
                return false;
            }
            switch (kind) {
                case BY_LIST:
                    return (question.sorts & sortsByList(leaf)) != 0;
                case BY_HASH:
                    return question.sorts != 0 && hashReaches(leaf, first, last);
                default:
                    return question.sorts != 0;
            }
        }

        private int sortsByList(int leaf) {
            return leaf == 0 ? detail : ALL_SORTS - detail;
        }

        // As many keys in a row as there are leaves have all the remainders that any more have.
        private boolean hashReaches(int leaf, int first, int last) {
            int end = Math.min(last, first + detail - 1);
            for (int key = first; key <= end; key++) {
                if (leafByHash(key) == leaf) {
                    return true;
                }
            }
            return false;
        }

        private int leafByHash(int key) {
            return detail > 0 ? (7 * key + 3) % detail : 0;
        }
    }
}
