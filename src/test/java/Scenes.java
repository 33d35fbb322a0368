/** The tables on which refused calls are tried, and the numbers of their parts and rows. */
final class Scenes {
    /** Detached, without rows; its range, 12 to 17, lies in that of WHOLE. */
    static final int AWAY_EMPTY = 1;
    /** 10 to 19, with a row at its first key and one at its last. */
    static final int WHOLE = 2;
    /** 20 to 29, whole too, beside WHOLE. */
    static final int BESIDE = 3;
    /** 30 to 39, by a list of the sorts 1 and 2. */
    static final int LIST = 4;
    /** 40 to 59, by a hash into three leaves. */
    static final int HASH = 5;
    /** Was 50 to 59, and was merged into HASH. */
    static final int GONE = 6;
    /** Detached, 60 to 69, with a row at its first key and one at its last; the rest has one at 65. */
    static final int AWAY = 7;
    /** 990 to 999, by the list of LIST, without rows. */
    static final int LAST = 8;
    static final int NOT_MADE = 9;

    static final int ROW = 0;
    static final int ROW_AWAY = 7;
    static final int ROW_REMOVED = 11;
    /** Was removed from AWAY. */
    static final int ROW_AWAY_REMOVED = 12;
    /** Of the rest, with a key of AWAY's range. */
    static final int ROW_OVER_AWAY = 13;
    static final int ROW_NOT_INSERTED = 14;

    static final Scene EMPTY = new Scene("a new table", t -> {});
    static final Scene STALE = new Scene("parts", Scenes::partsAndRows);
    static final Scene BUILT = STALE.then("index built", ParcelledTable::buildIndex);
    static final Scene FULL_OF_PARTS = STALE.then("15 parts made", Scenes::makeAllParts);
    static final Scene FULL_OF_PARTS_BUILT = FULL_OF_PARTS.then("index built", ParcelledTable::buildIndex);
    static final Scene FULL_OF_ROWS = STALE.then("200 rows inserted", Scenes::insertAllRows);
    static final Scene FULL_OF_ROWS_BUILT = FULL_OF_ROWS.then("index built", ParcelledTable::buildIndex);

    /** The tables that have the parts and rows above. */
    static final Scene[] WITH_PARTS = {STALE, BUILT, FULL_OF_PARTS, FULL_OF_ROWS_BUILT};
    /** Those of them to which another part could still be added. */
    static final Scene[] ROOM_FOR_PARTS = {STALE, BUILT, FULL_OF_ROWS_BUILT};
    static final Scene[] NO_ROOM_FOR_PARTS = {FULL_OF_PARTS, FULL_OF_PARTS_BUILT};
    static final Scene[] ROOM_FOR_ROWS = {STALE, BUILT, FULL_OF_PARTS};
    static final Scene[] NO_ROOM_FOR_ROWS = {FULL_OF_ROWS, FULL_OF_ROWS_BUILT};

    private Scenes() {}

    private static void partsAndRows(ParcelledTable t) {
        t.makePart(12, 18, 0, 0);
        t.detach(AWAY_EMPTY);
        t.makePart(10, 20, 0, 0);
        t.makePart(20, 30, 0, 0);
        t.makePart(30, 40, 1, 6);
        t.makePart(40, 50, 2, 3);
        t.makePart(50, 60, 2, 3);
        t.makePart(60, 70, 0, 0);
        t.makePart(990, 1000, 1, 6);
        t.insert(10, 0, 0);
        t.insert(19, 9, 99);
        t.insert(25, 1, 5);
        t.insert(31, 1, 5);
        t.insert(32, 0, 5);
        t.insert(45, 2, 7);
        t.insert(55, 3, 7);
        t.insert(60, 0, 7);
        t.insert(69, 4, 8);
        t.insert(5, 5, 5);
        t.insert(80, 5, 5);
        t.insert(81, 0, 1);
        t.insert(66, 0, 1);
        t.merge(HASH, GONE);
        t.detach(AWAY);
        t.remove(ROW_REMOVED);
        t.remove(ROW_AWAY_REMOVED);
        t.insert(65, 0, 3);
    }

    private static void makeAllParts(ParcelledTable t) {
        for (int part = NOT_MADE; part <= 15; part++) {
            t.makePart(10 * part, 10 * part + 10, 0, 0);
        }
    }

    private static void insertAllRows(ParcelledTable t) {
        for (int row = ROW_NOT_INSERTED; row < 200; row++) {
            t.insert(5, row % 10, row % 100);
        }
    }
}
