import java.util.function.Supplier;

/** Part 2 and promises 9 to 13, a method for each sentence that names a boundary, with its words. */
public final class WriteEdgesTest {
    private static final Check CHECK = new Check();
    private static final int BAD = -1, NOT = -2, FULL = -3;
    private static final int MIN = Integer.MIN_VALUE, MAX = Integer.MAX_VALUE;
    private static final int UID = 1, GID = 2, TIME = 3, NANOS = 4;

    public static void main(String[] args) {
        modes();
        fittingIds();
        fittingTimes();
        filledData();
        greatestSum();
        oldEntries();
        nanos();
        ustarNames();
        lastSplit();
        fullFields();
        links();
        rowsInOrder();
        longNamesInOrder();
        inPlace();
        behind();
        full();
        fullOfOneEntry();
        trim();
        pokeAndOctet();
        masks();
        sum();
        CHECK.close();
    }

    private static void due(String call, long got, long want) {
        CHECK.due(call, got, want);
    }

    private static void compare(String what, Supplier<TarForms> maker, String due) {
        Due.compare(CHECK, what, maker, due);
    }

    /** One file of one number, WRITTEN by a FAMILY. */
    private static TarForms written(int family, int what, long v) {
        TarForms x = new TarForms();
        x.number(what, v);
        Calls.file(x, "n", 0, 0);
        x.write(family, false);
        return x;
    }

    private static void refused(int family, int what, long v) {
        TarForms x = new TarForms();
        x.number(what, v);
        Calls.file(x, "n", 0, 0);
        due("number " + what + " of " + v + " by " + family, x.write(family, false), -10);
        due("nothing is WRITTEN", x.told(4), 0);
    }

    private static String head(int mode, String numbers, int family) {
        return Due.head("n", mode, numbers, 0, "0", family) + Due.END;
    }

    // ---- numbers

    /** "MODE OCTAL: as many digits as the field has bytes, less 1 (0s in front), then 0". */
    private static void modes() {
        for (int family = 0; family < 4; family++) {
            for (int mode : new int[] {0, 1, 7, 8, 511, 512, 4094, 4095}) {
                int f = family;
                compare("MODE " + mode, () -> written(f, 0, mode), head(mode, Due.ZEROS, f));
            }
        }
    }

    /** UID and GID at the edge: their fields in a HEAD, 0 in place of the other one. */
    private static String ids(int what, String field) {
        String zero = Due.octal(0, 8);
        return (what == UID ? field + zero : zero + field) + Due.octal(0, 12);
    }

    /** "it FITS, if it is not below 0 and has no more digits": 7 of UID and GID. */
    private static void fittingIds() {
        for (int what : new int[] {UID, GID}) {
            String key = what == UID ? "uid" : "gid";
            for (long v : new long[] {0, 7, 8, 2097150, 2097151}) {
                for (int family = 0; family < 4; family++) {
                    int f = family;
                    compare(key + " " + v, () -> written(f, what, v), head(420, ids(what, Due.octal(v, 8)), f));
                }
            }
            for (long v : new long[] {2097152, 2097153, 1L << 32, (1L << 55) - 1, 1L << 55}) {
                refused(0, what, v);
                refused(1, what, v);
                compare(key + " in ROWS " + v, () -> written(2, what, v),
                    Due.rowsAhead(Raw.row(key, "" + v)) + head(420, Due.ZEROS, 2));
                compare(key + " by 256 " + v, () -> written(3, what, v),
                    head(420, ids(what, Due.by256(v, 8)), 3));
            }
        }
    }

    private static String time(String field) {
        return Due.octal(0, 8) + Due.octal(0, 8) + field;
    }

    /** The same of TIME: 11 digits, and below 0. */
    private static void fittingTimes() {
        for (long v : new long[] {0, 1, 7, 8, 2097152, (1L << 33) - 1}) {
            for (int family = 0; family < 4; family++) {
                int f = family;
                compare("TIME " + v, () -> written(f, TIME, v), head(420, time(Due.octal(v, 12)), f));
            }
        }
        for (long v : new long[] {-1, -2, -255, -256, -257, -(1L << 40), 1L << 33, (1L << 33) + 1, 1L << 50}) {
            refused(0, TIME, v);
            refused(1, TIME, v);
            compare("mtime " + v, () -> written(2, TIME, v),
                Due.rowsAhead(Raw.row("mtime", "" + v)) + head(420, Due.ZEROS, 2));
            compare("TIME by 256 " + v, () -> written(3, TIME, v), head(420, time(Due.by256(v, 12)), 3));
        }
    }

    /** "Behind the HEAD comes the DATA, filled with 0s to whole BLOCKS". */
    private static void filledData() {
        for (int size : new int[] {0, 1, 2, 510, 511, 512, 513, 1023, 1024, 1025, 3583, 3584, 3585, 3999, 4000}) {
            compare("DATA of " + size, () -> {
                TarForms x = new TarForms();
                Calls.file(x, "n", size, size);
                Calls.file(x, "m", 0, 0);
                x.write(0, false);
                return x;
            }, Due.head("n", 420, Due.ZEROS, size, "0", 0) + Due.data(size, size)
                + Due.head("m", 420, Due.ZEROS, 0, "0", 0) + Due.END);
        }
    }

    /** "SUM: all bytes of the BLOCK together (0 .. 255 each), those of SUM itself as 32". */
    private static void greatestSum() {
        String front = Calls.text('\377', 155);
        String most = Calls.text('\377', 100);
        compare("fields of 255s", () -> {
            TarForms x = new TarForms();
            x.number(0, 4095);
            x.number(UID, 2097151);
            x.number(GID, 2097151);
            x.number(TIME, (1L << 33) - 1);
            Calls.linkEntry(x, 49, front + "/" + most, most);
            x.write(1, false);
            return x;
        }, Due.headWithFront(most, 4095, Due.numbers(2097151, 2097151, (1L << 33) - 1), 0, "1" + most, 1, front)
            + Due.END);
    }

    // ---- FAMILIES

    private static void dueOf(String what, int kind, String name, String link, int old, int ustar) {
        TarForms x = new TarForms();
        Calls.name(x, name);
        if (!link.isEmpty()) {
            Calls.link(x, link);
        }
        due(what + ": entry", x.entry(kind, 0, 0), 0);
        due(what + ": OF 0", x.write(0, false) < 0 ? 0 : 1, old);
        due(what + ": OF 1", x.write(1, false) < 0 ? 0 : 1, ustar);
        due(what + ": OF 2", x.write(2, false) < 0 ? 0 : 1, 1);
        due(what + ": OF 3", x.write(3, false) < 0 ? 0 : 1, 1);
    }

    /** "0: no folder, nor a file whose NAME ends with 47; NAME, LINK 100 bytes at most". */
    private static void oldEntries() {
        String hundred = Calls.text('n', 100);
        dueOf("a file", 48, "n", "", 1, 1);
        dueOf("a folder", 53, "n", "", 0, 1);
        dueOf("a folder, 47 at its end", 53, "n/", "", 0, 1);
        dueOf("a file, 47 at its end", 48, "n/", "", 0, 1);
        dueOf("a file of 47 alone", 48, "/", "", 0, 1);
        dueOf("a file of 100, 47 at its end", 48, hundred.substring(1) + "/", "", 0, 1);
        dueOf("a file, 47 ahead of its end", 48, "n/n", "", 1, 1);
        dueOf("a link, 47 at its end", 49, "n/", "l", 1, 1);
        dueOf("a link by name, 47 at its end", 50, "n/", "l/", 1, 1);
        dueOf("NAME of 100", 48, hundred, "", 1, 1);
        dueOf("NAME of 101", 48, hundred + "n", "", 0, 0);
        dueOf("NAME of 101 with 47", 48, "d/" + hundred.substring(1), "", 0, 1);
        dueOf("NAME of 101 with 47 at its begin", 48, "/" + hundred, "", 0, 0);
        dueOf("NAME of 101 with 47 at its end", 48, hundred + "/", "", 0, 0);
        for (int kind : new int[] {49, 50}) {
            dueOf("LINK of 100", kind, "n", hundred, 1, 1);
            dueOf("LINK of 101", kind, "n", hundred + "l", 0, 0);
            dueOf("LINK of 101 with 47", kind, "n", "d/" + hundred.substring(1), 0, 0);
        }
    }

    /** "NANOS is 0" (0, 1, 3); "2: all". */
    private static void nanos() {
        for (long v : new long[] {1, 999999999}) {
            refused(0, NANOS, v);
            refused(1, NANOS, v);
            refused(3, NANOS, v);
            due("NANOS by 2", written(2, NANOS, v).told(4), 2560);
        }
        for (int family = 0; family < 4; family++) {
            due("no NANOS by " + family, written(family, NANOS, 0).told(4), 1536);
        }
    }

    private static String nameWith47(int length, int... places) {
        StringBuilder name = new StringBuilder(Calls.text('n', length));
        for (int place : places) {
            name.setCharAt(place, '/');
        }
        return name.toString();
    }

    private static boolean isSplit(int length, int place) {
        int behind = length - 1 - place;
        return place >= 1 && place <= 155 && behind >= 1 && behind <= 100;
    }

    /** "there is a 47 in it with 1 .. 155 bytes ahead of it and 1 .. 100 behind it". */
    private static void ustarNames() {
        for (int length : new int[] {101, 102, 103, 155, 156, 157, 200, 255, 256, 257, 400}) {
            for (int place = 0; place < length; place++) {
                TarForms x = new TarForms();
                Calls.name(x, nameWith47(length, place));
                x.entry(53, 0, 0);
                boolean isOf = isSplit(length, place);
                String what = "47 at " + place + " of " + length;
                due(what + ": by 1", x.write(1, false), isOf ? 1536 : -10);
                due(what + ": best", x.best(), isOf ? 1 : 2);
                due(what + ": by 2", x.write(2, false), isOf ? 1536 : 2560);
                due(what + ": by 3", x.write(3, false), 2560);
            }
        }
    }

    /** "with such a 47, the last such one: what is ahead of it is FRONT, what is behind it NAME". */
    private static void lastSplit() {
        for (int length : new int[] {101, 150, 200, 256}) {
            for (int first = 0; first < length; first += 3) {
                for (int second = first + 1; second < length; second += 7) {
                    int split = isSplit(length, second) ? second : isSplit(length, first) ? first : -1;
                    TarForms x = new TarForms();
                    Calls.file(x, nameWith47(length, first, second), 0, 0);
                    String what = "47s at " + first + ", " + second + " of " + length;
                    due(what, x.write(1, false), split < 0 ? -10 : 1536);
                    if (split > 0) {
                        dueParts(what, x, split, length - split - 1);
                    }
                }
            }
        }
    }

    private static void dueParts(String what, TarForms x, int front, int name) {
        CHECK.isTrue(what + ": FRONT has so many", x.octet(345 + front - 1) > 0);
        due(what + ": FRONT has no more", x.octet(345 + front), 0);
        CHECK.isTrue(what + ": NAME has so many", x.octet(name - 1) > 0);
        CHECK.isTrue(what + ": NAME has no more", name == 100 || x.octet(name) == 0);
    }

    /** "NAME (100 bytes)", "LINK (100)", "FRONT (155)": no byte goes beyond its field. */
    private static void fullFields() {
        String name = Calls.text('n', 100);
        String link = Calls.text('l', 100);
        String front = Calls.text('f', 155);
        for (int family = 1; family < 3; family++) {
            int f = family;
            compare("all fields full in " + f, () -> {
                TarForms x = new TarForms();
                Calls.linkEntry(x, 50, front + "/" + name, link);
                x.write(f, false);
                return x;
            }, Due.headWithFront(name, 420, Due.ZEROS, 0, "2" + link, f, front) + Due.END);
        }
    }

    /** "LINK in its field, when it has 100 bytes at most. Otherwise (2, 3) the first 100 bytes". */
    private static void links() {
        for (int length : new int[] {1, 99, 100}) {
            String link = Calls.text('l', length);
            for (int family = 0; family < 4; family++) {
                int f = family;
                compare("LINK of " + length, () -> link(f, link),
                    Due.head("n", 420, Due.ZEROS, 0, "1" + link, f) + Due.END);
            }
        }
        for (int length : new int[] {101, 102, 399, 400}) {
            String link = nameWith47(length, 50);
            String field = "1" + link.substring(0, 100);
            due("LINK by 0", link(0, link).told(4), 0);
            due("LINK by 1", link(1, link).told(4), 0);
            compare("LINK by 2", () -> link(2, link),
                Due.rowsAhead(Raw.row("linkpath", link)) + Due.head("n", 420, Due.ZEROS, 0, field, 2) + Due.END);
            compare("LINK by 3", () -> link(3, link),
                Due.longAhead(75, link) + Due.head("n", 420, Due.ZEROS, 0, field, 3) + Due.END);
        }
    }

    private static TarForms link(int family, String link) {
        TarForms x = new TarForms();
        Calls.linkEntry(x, 49, "n", link);
        x.write(family, false);
        return x;
    }

    /** "ROWS, in this order: path, linkpath, uid, gid, mtime", and none "if none of these is so". */
    private static void rowsInOrder() {
        for (int set = 0; set < 32; set++) {
            String name = Calls.text('n', has(set, 0) ? 101 : 100);
            String link = Calls.text('l', has(set, 1) ? 101 : 100);
            long uid = has(set, 2) ? 2097152 : 2097151;
            long gid = has(set, 3) ? 2097152 : 2097151;
            long time = has(set, 4) ? 1L << 33 : (1L << 33) - 1;
            String rows = (has(set, 0) ? Raw.row("path", name) : "") + (has(set, 1) ? Raw.row("linkpath", link) : "")
                + (has(set, 2) ? Raw.row("uid", "" + uid) : "") + (has(set, 3) ? Raw.row("gid", "" + gid) : "")
                + (has(set, 4) ? Raw.row("mtime", "" + time) : "");
            String numbers = Due.numbers(has(set, 2) ? 0 : uid, has(set, 3) ? 0 : gid, has(set, 4) ? 0 : time);
            String head = Due.head(name.substring(0, 100), 420, numbers, 0, "2" + link.substring(0, 100), 2);
            compare("ROWS " + set, () -> {
                TarForms x = new TarForms();
                x.number(UID, uid);
                x.number(GID, gid);
                x.number(TIME, time);
                Calls.linkEntry(x, 50, name, link);
                x.write(2, false);
                return x;
            }, (set == 0 ? "" : Due.rowsAhead(rows)) + head + Due.END);
        }
    }

    private static boolean has(int set, int bit) {
        return (set >> bit & 1) != 0;
    }

    /** "with a LINK of more than 100 bytes a HEAD of KIND 75, then with such a NAME one of KIND 76". */
    private static void longNamesInOrder() {
        for (int nameLength : new int[] {99, 100, 101, 400}) {
            for (int linkLength : new int[] {99, 100, 101, 400}) {
                String name = Calls.text('n', nameLength);
                String link = Calls.text('l', linkLength);
                String linkField = link.substring(0, Math.min(100, linkLength));
                compare("LONG " + nameLength + ", " + linkLength, () -> {
                    TarForms x = new TarForms();
                    Calls.linkEntry(x, 49, name, link);
                    x.write(3, false);
                    return x;
                }, (linkLength > 100 ? Due.longAhead(75, link) : "") + (nameLength > 100 ? Due.longAhead(76, name) : "")
                    + Due.head(name.substring(0, Math.min(100, nameLength)), 420, Due.ZEROS, 0, "1" + linkField, 3)
                    + Due.END);
            }
        }
    }

    // ---- write

    /** "All ENTRIES are WRITTEN, in place of THE ARCHIVE": what was longer leaves nothing behind. */
    private static void inPlace() {
        compare("short in place of long", () -> {
            TarForms x = new TarForms();
            Calls.file(x, "long", 4000, 5);
            due("long", x.write(0, false), 5632);
            x.clear();
            Calls.file(x, "n", 1, 1);
            due("short", x.write(1, false), 2048);
            due("octet behind it", x.octet(2048), BAD);
            due("once more behind it", x.write(1, true), 4096);
            return x;
        }, (Due.head("n", 420, Due.ZEROS, 1, "0", 1) + Due.data(1, 1) + Due.END).repeat(2));
    }

    private static TarForms ofBytes(int bytes) {
        TarForms x = new TarForms();
        while (x.told(4) < bytes) {
            x.write(0, true);
        }
        x.trim(bytes);
        return x;
    }

    /** "NOT (behind): it has no whole BLOCKS"; none at all are whole ones. */
    private static void behind() {
        for (int bytes = 0; bytes <= 1025; bytes++) {
            TarForms x = ofBytes(bytes);
            due("behind " + bytes, x.write(3, true), bytes % 512 == 0 ? bytes + 1024 : NOT);
            due("in place of " + bytes, x.write(3, false), 1024);
        }
    }

    /** "THE ARCHIVE has at most 32768 bytes"; "FULL". */
    private static void full() {
        for (int family = 0; family < 4; family++) {
            for (int blocks = 0; blocks <= 64; blocks++) {
                int length = blocks * 512 + 1024;
                TarForms x = ofBytes(blocks * 512);
                due("an end behind " + blocks, x.write(family, true), length <= 32768 ? length : FULL);
                due("told(4)", x.told(4), length <= 32768 ? length : blocks * 512);
            }
            TarForms x = ofBytes(32767);
            due("behind 32767", x.write(family, true), NOT);
            due("in place of 32767", x.write(family, false), 1024);
            x = ofBytes(32768);
            due("in place of 32768", x.write(family, false), 1024);
        }
    }

    /** Seven files of 62 BLOCKS together, and one that is longer by a byte. */
    private static void fullOfOneEntry() {
        for (int more = 0; more < 2; more++) {
            TarForms x = new TarForms();
            for (int i = 0; i < 6; i++) {
                Calls.file(x, "f" + i, 4000, 0);
            }
            Calls.file(x, "g", 3584 + more, 0);
            for (int family = 0; family < 4; family++) {
                due("62 BLOCKS and " + more, x.write(family, false), more == 0 ? 32768 : FULL);
            }
        }
    }

    // ---- trim, poke, octet, sum

    private static final int[] LENGTHS = {0, 1, 511, 512, 513, 1023, 1024, 32767, 32768};

    /** "THE ARCHIVE has its first n bytes alone: how many went. BAD". */
    private static void trim() {
        for (int bytes : LENGTHS) {
            for (int n : new int[] {-1, bytes + 1, MIN, MAX}) {
                due("trim(" + n + ") of " + bytes, ofBytes(bytes).trim(n), BAD);
            }
            TarForms x = ofBytes(bytes);
            due("trim to all", x.trim(bytes), 0);
            due("told(4)", x.told(4), bytes);
            if (bytes > 0) {
                due("trim by one", x.trim(bytes - 1), 1);
                due("told(4)", x.told(4), bytes - 1);
                due("the byte that went", x.octet(bytes - 1), BAD);
                due("trim to none", x.trim(0), bytes - 1);
            }
            due("told(4) of none", x.told(4), 0);
            due("octet of none", x.octet(0), BAD);
        }
    }

    /** "A byte of THE ARCHIVE. BAD": the first one, the last one, and those beside them. */
    private static void pokeAndOctet() {
        for (int bytes : LENGTHS) {
            TarForms x = ofBytes(bytes);
            for (int place : new int[] {-1, bytes, bytes + 1, MIN, MAX, 32768}) {
                due("octet(" + place + ") of " + bytes, x.octet(place), BAD);
                due("poke(" + place + ") of " + bytes, x.poke(place, 1), BAD);
            }
            if (bytes > 0) {
                due("poke of the last", x.poke(bytes - 1, 200), 200);
                due("octet of the last", x.octet(bytes - 1), 200);
                due("poke of the first", x.poke(0, 3), bytes == 1 ? 203 : 3);
                due("octet of the first", x.octet(0), bytes == 1 ? 203 : 3);
            }
            if (bytes > 2) {
                due("the one behind the first", x.octet(1), 0);
                due("the one ahead of the last", x.octet(bytes - 2), 0);
            }
        }
    }

    /** "A byte becomes another one (^ mask, 0 .. 255): what it is". */
    private static void masks() {
        TarForms x = ofBytes(1);
        int value = 0;
        for (int mask = 0; mask <= 255; mask++) {
            value ^= mask;
            due("poke by " + mask, x.poke(0, mask), value);
        }
        for (int mask : new int[] {-1, 256, -256, 257, MIN, MAX}) {
            due("poke by " + mask, x.poke(0, mask), BAD);
        }
        due("octet", x.octet(0), value);
    }

    /** "the HEAD that begins at a place (a multiple of 512). BAD: else, or no whole BLOCK is there". */
    private static void sum() {
        for (int bytes : LENGTHS) {
            for (int block = -1; block <= 64; block++) {
                TarForms x = ofBytes(bytes);
                int place = 512 * block;
                boolean isWhole = block >= 0 && place + 512 <= bytes;
                due("sum(" + place + ") of " + bytes, x.sum(place), isWhole ? 256 : BAD);
                due("its digits", x.octet(place + 151), isWhole ? 52 : place + 151 < bytes && block >= 0 ? 0 : BAD);
                due("one ahead", x.sum(place - 1), BAD);
                due("one behind", x.sum(place + 1), BAD);
                due("half a BLOCK behind", x.sum(place + 256), BAD);
            }
            due("sum(min)", ofBytes(bytes).sum(MIN), BAD);
            due("sum of the last multiple", ofBytes(bytes).sum(MAX - 511), BAD);
        }
    }
}
