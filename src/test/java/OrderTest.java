/**
 * "Of several the first one": all the refusals of entry() and write() with and without one another;
 * and "of one HEAD the first in this order counts": FAULTS that one HEAD has together.
 */
public final class OrderTest {
    private static final Check CHECK = new Check();
    private static final int BAD = -1, NOT = -2, FULL = -3;
    private static final int FILE = 48, ROWS = 120, ROWS_FOR_ALL = 103, LONG_LINK = 75, LONG_NAME = 76;

    public static void main(String[] args) {
        entries();
        writes();
        firstEntryNotOf();
        numberFields();
        faultsOfEntries();
        faultsOfRows();
        faultsOfLongNames();
        whatComesBehind();
        CHECK.close();
    }

    // ---- entry: BAD; NOT; FULL

    private static void entries() {
        for (int before : new int[] {0, 7, 8}) {
            for (int draft = 0; draft < 4; draft++) {
                for (int kind : new int[] {47, 48, 49, 50, 53, 54}) {
                    for (int size : new int[] {-1, 0, 1, 4000, 4001}) {
                        entry(before, draft, kind, size);
                    }
                }
            }
        }
    }

    /** Of draft, bit 1 tells whether it has a NAME, bit 2 a LINK. */
    private static void entry(int before, int draft, int kind, int size) {
        TarForms x = new TarForms();
        for (int i = 0; i < before; i++) {
            Calls.file(x, "f" + i, 0, 0);
        }
        boolean hasName = (draft & 1) != 0;
        boolean hasLink = (draft & 2) != 0;
        if (hasName) {
            Calls.name(x, "n");
        }
        if (hasLink) {
            Calls.link(x, "l");
        }
        boolean isLink = kind == 49 || kind == 50;
        boolean isSize = kind == 48 ? size >= 0 && size <= 4000 : size == 0;
        int due = before < 8 ? before : FULL;
        if (!hasName || isLink != hasLink) {
            due = NOT;
        }
        if (kind != 48 && kind != 53 && !isLink || !isSize) {
            due = BAD;
        }
        String what = "entry(" + kind + ", " + size + ") behind " + before + ", draft " + draft;
        CHECK.due(what, x.entry(kind, size, 0), due);
        CHECK.due(what + ": told(5)", x.told(5), due < 0 ? before : before + 1);
    }

    // ---- write: BAD; -10 less the first that is not OF it; NOT; FULL

    private static void writes() {
        for (int family = -1; family <= 4; family++) {
            for (int bytes : new int[] {0, 511, 512, 513, 26624, 27136, 27648, 28160, 32767, 32768}) {
                for (int entries = 0; entries < 4; entries++) {
                    write(family, false, bytes, entries);
                    write(family, true, bytes, entries);
                }
            }
        }
    }

    /** Of entries, bit 1 tells whether the second one has NANOS, bit 2 whether they are too many. */
    private static void write(int family, boolean behind, int bytes, int entries) {
        TarForms x = new TarForms();
        while (x.told(4) < bytes) {
            x.write(0, true);
        }
        x.trim(bytes);
        boolean hasNanos = (entries & 1) != 0;
        boolean areMany = (entries & 2) != 0;
        int size = areMany ? 4000 : 0;
        for (int i = 0; i < 8; i++) {
            x.number(4, hasNanos && i == 1 ? 1 : 0);
            Calls.file(x, "f" + i, i == 7 ? 0 : size, 0);
        }
        int blocks = (areMany ? 7 * 9 + 1 : 8) + 2 + (hasNanos ? 2 : 0);
        int length = (behind ? bytes : 0) + 512 * blocks;
        int due = length > 32768 ? FULL : length;
        if (behind && bytes % 512 != 0) {
            due = NOT;
        }
        if (hasNanos && family != 2) {
            due = -11;
        }
        if (family < 0 || family > 3) {
            due = BAD;
        }
        String what = "write(" + family + ", " + behind + ") of " + entries + " to " + bytes;
        CHECK.due(what, x.write(family, behind), due);
        CHECK.due(what + ": told(4)", x.told(4), due < 0 ? bytes : due);
    }

    private static void firstEntryNotOf() {
        for (int first = 0; first < 8; first++) {
            TarForms x = new TarForms();
            for (int i = 0; i < 8; i++) {
                x.number(4, i == first || i == 7 ? 999999999 : 0);
                Calls.file(x, "f" + i, 0, 0);
            }
            for (int family : new int[] {0, 1, 3}) {
                CHECK.due("the first one that is not OF " + family, x.write(family, false), -10 - first);
                CHECK.due("behind nothing", x.write(family, true), -10 - first);
            }
        }
    }

    // ---- FAULTS

    private static void due(String what, Raw raw, int found, int fault, int place) {
        CHECK.dueRead(what, raw.load(), false, found, fault, place);
    }

    private static boolean has(int set, int bit) {
        return (set >> bit & 1) != 0;
    }

    /** "5: of MODE, UID, GID, SIZE, TIME, in this order, the first that is no number". */
    private static void numberFields() {
        int[] places = {100, 108, 116, 124, 136};
        for (int set = 1; set < 32; set++) {
            Raw raw = Raw.begin().head(FILE, "a");
            for (int i = 0; i < places.length; i++) {
                if (has(set, i)) {
                    raw.put(places[i], "9");
                }
            }
            due("wrong fields " + set, raw.end(), 0, 5, places[Integer.numberOfTrailingZeros(set)]);
        }
        String below = Calls.text('\377', 12);
        due("SIZE below 0 ahead of TIME", Raw.begin().head(FILE, "a").put(124, below).put(136, "9").end(), 0, 5, 124);
        due("GID ahead of SIZE below 0", Raw.begin().head(FILE, "a").put(124, below).put(116, "9").end(), 0, 5, 116);
    }

    /** Wrong ways 4, 5, 6 and 7 of the latest HEAD; SUM comes last, as the others write it anew. */
    private static Raw spoil(Raw raw, int set) {
        if (has(set, 1)) {
            raw.put(136, "9");
        }
        if (has(set, 2)) {
            raw.put(156, "?");
        }
        if (has(set, 3)) {
            raw.put(124, "77777");
        }
        if (has(set, 0)) {
            raw.unsummed(148, "9");
        }
        return raw;
    }

    /** What counts of the wrong ways of spoil(), or others behind them. */
    private static void dueFirst(String what, Raw raw, int found, int set, int[] others) {
        int p = found * 512;
        int[] faults = {4, 5, 6, 7};
        int[] places = {p + 148, p + 136, p + 156, p};
        int first = Integer.numberOfTrailingZeros(set);
        if (first < 4) {
            due(what + set, raw, found, faults[first], places[first]);
        } else {
            due(what + set, raw, found, others[0], others[1]);
        }
    }

    /** 4, 5, 6, 7, 10, 11: behind 40 that were FOUND one more is 10, and one without NAME 11. */
    private static void faultsOfEntries() {
        for (int set = 1; set < 64; set++) {
            boolean isOneMore = has(set, 4);
            boolean isNameless = has(set, 5);
            int before = isOneMore ? 40 : 3;
            Raw raw = Raw.files(before).head(0, isNameless ? "" : "a");
            int[] others = {isOneMore ? 10 : 11, before * 512};
            dueFirst("an ENTRY with ", spoil(raw, set & 15).end(), before, set, others);
        }
    }

    /** 4, 5, 6, 7, 8, 9. */
    private static void faultsOfRows() {
        String[] rows = {"9 uid=12\n", "9 uid=12 ", "9 uid=xy\n", "9 uid=xy "};
        for (int kind : new int[] {ROWS, ROWS_FOR_ALL}) {
            for (int set = 1; set < 64; set++) {
                boolean isNoRow = has(set, 4);
                Raw raw = Raw.begin().head(kind, "x", rows[set >> 4]);
                int[] others = {isNoRow ? 8 : 9, isNoRow ? 512 : 518};
                dueFirst("ROWS with ", spoil(raw, set & 15).end(), 0, set, others);
            }
        }
    }

    /** 4, 5, 6, 7, 9. */
    private static void faultsOfLongNames() {
        for (int kind : new int[] {LONG_LINK, LONG_NAME}) {
            for (int set = 1; set < 32; set++) {
                Raw raw = Raw.begin().head(kind, "L", has(set, 4) ? "\0" : "n");
                dueFirst("a long name with ", spoil(raw, set & 15).end(), 0, set, new int[] {9, 512});
            }
        }
    }

    private static Raw begin(boolean isTold) {
        return Raw.begin().head(isTold ? ROWS : ROWS_FOR_ALL, "x", "9 uid=12\n");
    }

    /** 1, 2, 3, 12: what comes at p, with and without something told ahead. */
    private static void whatComesBehind() {
        for (boolean isTold : new boolean[] {false, true}) {
            String what = "told ahead " + isTold + ": ";
            due(what + "no byte", begin(isTold), 0, isTold ? 12 : 1, 1024);
            due(what + "one byte", begin(isTold).zeros(1), 0, 2, 1024);
            due(what + "511 bytes", begin(isTold).zeros(511), 0, 2, 1024);
            due(what + "one BLOCK of 0s", begin(isTold).zeros(512), 0, 3, 1024);
            due(what + "1023 bytes of 0s", begin(isTold).zeros(1023), 0, 3, 1024);
            due(what + "0s, then a HEAD", begin(isTold).zeros(512).head(FILE, "a"), 0, 3, 1024);
            due(what + "an end", begin(isTold).zeros(1024), 0, isTold ? 12 : 0, isTold ? 1024 : 0);
            due(what + "a HEAD and an end", begin(isTold).head(FILE, "a").end(), 1, 0, 0);
            due(what + "a wrong HEAD", begin(isTold).head('?', "a").end(), 0, 6, 1024 + 156);
        }
    }
}
