/**
 * Tape archives in four families: written as heads and blocks, read again byte by byte with the
 * first fault and its place. The words in capitals are those of the document (DOC.md).
 *
 * <p>All rows of bytes are made with the object and used again, so that no call makes anything.
 */
public final class TarForms {
    public static final int BAD = -1, NOT = -2, FULL = -3;

    private static final long NONE_SUCH = -9000000000000000000L;

    private static final int BLOCK = 512;
    private static final int TAPE_ROOM = 512;
    private static final int ARCHIVE_ROOM = 32768;
    private static final int MOST_ENTRIES = 8;
    private static final int MOST_DATA = 4000;
    private static final int MOST_FOUND = 40;
    private static final int MOST_LETTERS = 400;
    private static final int BILLION = 1000000000;

    private static final int OLD = 0, USTAR = 1, EXTENDED = 2, LONG = 3;

    private static final int FILE = 48, HARD_LINK = 49, SOFT_LINK = 50, FOLDER = 53;
    private static final int ROWS_FOR_NEXT = 120, ROWS_FOR_ALL = 103, LONG_LINK = 75, LONG_NAME = 76;

    private static final int NAME_AT = 0, MODE_AT = 100, UID_AT = 108, GID_AT = 116, SIZE_AT = 124;
    private static final int TIME_AT = 136, SUM_AT = 148, KIND_AT = 156, LINK_AT = 157;
    private static final int MAGIC_AT = 257, FRONT_AT = 345;
    private static final int SHORT_FIELD = 8, WIDE_FIELD = 12, NAME_FIELD = 100, FRONT_FIELD = 155;

    private static final int SLASH = 47, DOT = 46, SPACE = 32, EQUALS = 61, NEWLINE = 10;
    private static final int MINUS = 45, ZERO = 48;

    private static final int[] USTAR_MAGIC = {117, 115, 116, 97, 114, 0, 48, 48};
    private static final int[] LONG_MAGIC = {117, 115, 116, 97, 114, 32, 32, 0};

    /** The numbers of an ENTRY as number() counts them, and what each may be. */
    private static final int MODE = 0, UID = 1, GID = 2, TIME = 3, NANOS = 4;
    private static final long[] LEAST = {0L, 0L, 0L, -1099511627776L, 0L};
    private static final long[] MOST = {
        4095L, 36028797018963968L, 36028797018963968L, 1125899906842624L, 999999999L
    };
    private static final int FIRST_MODE = 420;

    private final Row tape = new Row(TAPE_ROOM);
    private final Row archive = new Row(ARCHIVE_ROOM);
    /** One slot more than ENTRIES: THE DRAFT is the slot behind the last ENTRY. */
    private final Entry[] slots = new Entry[MOST_ENTRIES + 1];
    private int entryCount = 0;
    private final ArchiveWriter writer = new ArchiveWriter(archive);
    private final ArchiveReader reader = new ArchiveReader(archive);

    public TarForms() {
        for (int i = 0; i < slots.length; i++) {
            slots[i] = new Entry();
        }
    }

    // ---- entries

    public int feed(int a, int b, int c, int d) {
        if (tape.room() < 16) {
            return FULL;
        }
        tape.addWord(a);
        tape.addWord(b);
        tape.addWord(c);
        tape.addWord(d);
        return tape.count();
    }

    public int cut(int n) {
        return keepFirst(tape, n);
    }

    public int name(boolean link) {
        int n = tape.count();
        if (n == 0 || n > MOST_LETTERS || tape.find(0, 0, n) < n) {
            return NOT;
        }
        Row row = link ? draft().link : draft().name;
        row.become(tape, 0, n);
        tape.empty();
        return n;
    }

    public int number(int what, long v) {
        if (what < MODE || what > NANOS || v < LEAST[what] || v > MOST[what]) {
            return BAD;
        }
        draft().numbers[what] = v;
        return 1;
    }

    public int entry(int kind, int size, int seed) {
        if (!isEntryKind(kind) || size < 0 || size > (kind == FILE ? MOST_DATA : 0)) {
            return BAD;
        }
        Entry draft = draft();
        boolean wantsLink = kind == HARD_LINK || kind == SOFT_LINK;
        if (draft.name.count() == 0 || wantsLink != (draft.link.count() > 0)) {
            return NOT;
        }
        if (entryCount >= MOST_ENTRIES) {
            return FULL;
        }
        draft.kind = kind;
        draft.size = size;
        draft.seed = seed;
        entryCount++;
        draft().empty();
        return entryCount - 1;
    }

    public int clear() {
        int before = entryCount;
        entryCount = 0;
        draft().empty();
        return before;
    }

    public int best() {
        for (int family = OLD; family < EXTENDED; family++) {
            if (firstNotOf(family) == entryCount) {
                return family;
            }
        }
        return EXTENDED;
    }

    // ---- the archive

    public int write(int family, boolean behind) {
        if (family < OLD || family > LONG) {
            return BAD;
        }
        int other = firstNotOf(family);
        if (other < entryCount) {
            return -10 - other;
        }
        if (behind && archive.count() % BLOCK != 0) {
            return NOT;
        }
        int start = behind ? archive.count() : 0;
        if (start + lengthWritten(family) > ARCHIVE_ROOM) {
            return FULL;
        }
        archive.keep(start);
        for (int i = 0; i < entryCount && i < slots.length; i++) {
            writer.append(slots[i], family);
        }
        archive.addZeros(2 * BLOCK);
        return archive.count();
    }

    public int trim(int n) {
        return keepFirst(archive, n);
    }

    public int poke(int place, int mask) {
        int old = archive.at(place);
        if (old < 0 || mask < 0 || mask > 255) {
            return BAD;
        }
        archive.set(place, old ^ mask);
        return old ^ mask;
    }

    public int sum(int place) {
        if (place < 0 || place % BLOCK != 0 || place > archive.count() - BLOCK) {
            return BAD;
        }
        return writer.seal(place);
    }

    public int octet(int place) {
        return archive.at(place);
    }

    public int read(boolean on) {
        return reader.run(on);
    }

    public int told(int what) {
        switch (what) {
            case 0: return reader.fault.kind;
            case 1: return reader.fault.place;
            case 2: return reader.foundCount;
            case 3: return reader.ends;
            case 4: return archive.count();
            case 5: return entryCount;
            case 6: return tape.count();
            default: return BAD;
        }
    }

    public long found(int i, int what) {
        Found one = reader.at(i);
        if (one == null || what < 0 || what >= one.values.length) {
            return NONE_SUCH;
        }
        return one.values[what];
    }

    public int letter(int i, boolean link, int k) {
        Found one = reader.at(i);
        if (one == null) {
            return BAD;
        }
        return link ? one.link.at(k) : one.name.at(k);
    }

    private Entry draft() {
        return slots[Math.min(Math.max(entryCount, 0), MOST_ENTRIES)];
    }

    /** The first ENTRY that is not OF the FAMILY, or how many ENTRIES there are. */
    private int firstNotOf(int family) {
        for (int i = 0; i < entryCount && i < slots.length; i++) {
            if (!slots[i].isOf(family)) {
                return i;
            }
        }
        return entryCount;
    }

    private int lengthWritten(int family) {
        int length = 2 * BLOCK;
        for (int i = 0; i < entryCount && i < slots.length; i++) {
            length += writer.lengthOf(slots[i], family);
        }
        return length;
    }

    private static int keepFirst(Row row, int n) {
        int before = row.count();
        if (n < 0 || n > before) {
            return BAD;
        }
        row.keep(n);
        return before - n;
    }

    private static boolean isEntryKind(int kind) {
        return kind == FILE || kind == HARD_LINK || kind == SOFT_LINK || kind == FOLDER;
    }

    /** How many bytes n bytes of DATA take, filled to whole BLOCKS. */
    private static int filled(int n) {
        return (n + BLOCK - 1) / BLOCK * BLOCK;
    }

    /** The SUM of a BLOCK; its own field counts as spaces, so that it does not change itself. */
    private static int sumOf(Row row, int head, boolean signed) {
        int total = 0;
        for (int i = 0; i < BLOCK; i++) {
            int b = row.at(head + i);
            if (i >= SUM_AT && i < SUM_AT + SHORT_FIELD) {
                b = SPACE;
            }
            total += signed ? (byte) b : b;
        }
        return total;
    }

    /** A row of bytes in an array made once; every index is tested here and nowhere else. */
    private static final class Row {
        /** No long has more decimal digits. */
        private static final int MOST_DIGITS = 19;

        private final byte[] cells;
        private int used = 0;

        Row(int room) {
            cells = new byte[Math.max(room, 0)];
        }

        int count() {
            return used;
        }

        int room() {
            return cells.length - used;
        }

        /** Byte i (0 .. 255), or BAD where there is none. */
        int at(int i) {
            return i >= 0 && i < used && i < cells.length ? cells[i] & 255 : BAD;
        }

        void set(int i, int value) {
            if (i >= 0 && i < used && i < cells.length) {
                cells[i] = (byte) value;
            }
        }

        void add(int value) {
            if (used >= 0 && used < cells.length) {
                cells[used] = (byte) value;
                used++;
            }
        }

        void empty() {
            used = 0;
        }

        void keep(int n) {
            if (n >= 0 && n < used) {
                used = n;
            }
        }

        void addWord(int word) {
            add(word >>> 24);
            add(word >>> 16);
            add(word >>> 8);
            add(word);
        }

        void addZeros(int n) {
            for (int i = 0; i < n; i++) {
                add(0);
            }
        }

        /** Becomes a part of another row; false (and as it was), if that is empty or too long. */
        boolean become(Row from, int begin, int end) {
            if (end - begin < 1 || end - begin > cells.length) {
                return false;
            }
            used = 0;
            addPart(from, begin, end);
            return true;
        }

        void addPart(Row from, int begin, int end) {
            for (int i = begin; i < end; i++) {
                add(from.at(i));
            }
        }

        void addText(String text) {
            for (int i = 0; i < text.length(); i++) {
                add(text.charAt(i));
            }
        }

        /** A number of 0 or more in decimal digits. */
        void addDecimal(long v) {
            int width = decimalWidth(v);
            long power = 1;
            for (int n = 1; n < width; n++) {
                power *= 10;
            }
            for (int n = 0; n < width && power > 0; n++) {
                add(ZERO + (int) (v / power % 10));
                power /= 10;
            }
        }

        void setPart(int at, Row from, int begin, int end) {
            for (int i = begin; i < end; i++) {
                set(at + i - begin, from.at(i));
            }
        }

        void setText(int at, String text) {
            for (int i = 0; i < text.length(); i++) {
                set(at + i, text.charAt(i));
            }
        }

        void setAll(int at, int[] bytes) {
            for (int i = 0; i < bytes.length; i++) {
                set(at + i, bytes[i]);
            }
        }

        /** So many octal digits, 0s in front. */
        void setOctal(int at, int digits, long v) {
            long rest = v;
            for (int i = digits - 1; i >= 0; i--) {
                set(at + i, ZERO + (int) (rest & 7));
                rest >>>= 3;
            }
        }

        /** Where a byte stands first from begin on, or end. */
        int find(int value, int begin, int end) {
            for (int i = begin; i < end; i++) {
                if (at(i) == value) {
                    return i;
                }
            }
            return end;
        }

        boolean holds(int begin, int end, String text) {
            if (end - begin != text.length()) {
                return false;
            }
            for (int i = 0; i < text.length(); i++) {
                if (at(begin + i) != text.charAt(i)) {
                    return false;
                }
            }
            return true;
        }

        boolean endsWithSlash() {
            return at(used - 1) == SLASH;
        }

        /** The number of 1 .. most decimal digits that fill the part, or BAD. */
        long decimal(int begin, int end, int most) {
            if (end - begin < 1 || end - begin > most) {
                return BAD;
            }
            long v = 0;
            for (int i = begin; i < end; i++) {
                int digit = at(i) - ZERO;
                if (digit < 0 || digit > 9) {
                    return BAD;
                }
                v = v * 10 + digit;
            }
            return v;
        }

        static int decimalWidth(long v) {
            int width = 1;
            long rest = v / 10;
            for (int n = 1; n < MOST_DIGITS && rest > 0; n++) {
                width++;
                rest /= 10;
            }
            return width;
        }
    }

    /** An ENTRY, or THE DRAFT of one. */
    private static final class Entry {
        final Row name = new Row(MOST_LETTERS);
        final Row link = new Row(MOST_LETTERS);
        final long[] numbers = {FIRST_MODE, 0L, 0L, 0L, 0L};
        int kind = FILE;
        int size = 0;
        int seed = 0;

        void empty() {
            name.empty();
            link.empty();
            numbers[MODE] = FIRST_MODE;
            numbers[UID] = 0;
            numbers[GID] = 0;
            numbers[TIME] = 0;
            numbers[NANOS] = 0;
        }

        boolean isOf(int family) {
            switch (family) {
                case OLD: return !looksLikeFolder() && name.count() <= NAME_FIELD && isPlain();
                case USTAR: return isNameInFields() && isPlain();
                case EXTENDED: return true;
                default: return numbers[NANOS] == 0;
            }
        }

        /** OLD has no KIND for folders: its readers take the 47 at the end of a NAME for one. */
        private boolean looksLikeFolder() {
            return kind == FOLDER || kind == FILE && name.endsWithSlash();
        }

        private boolean isPlain() {
            return link.count() <= NAME_FIELD && fits(numbers[UID], SHORT_FIELD)
                && fits(numbers[GID], SHORT_FIELD) && fits(numbers[TIME], WIDE_FIELD) && numbers[NANOS] == 0;
        }

        static boolean fits(long v, int width) {
            return v >= 0 && v < 1L << 3 * (width - 1);
        }

        boolean isNameInFields() {
            return name.count() <= NAME_FIELD || split() > 0;
        }

        /** The last 47 that parts a long NAME into FRONT and NAME, or BAD. */
        int split() {
            int n = name.count();
            for (int i = Math.min(FRONT_FIELD, n - 2); i >= 1 && n - 1 - i <= NAME_FIELD; i--) {
                if (name.at(i) == SLASH) {
                    return i;
                }
            }
            return BAD;
        }

        int dataByte(int i) {
            int h = (seed + i) * 0x9E3779B1;
            return (h ^ h >>> 15) & 255;
        }
    }

    /** Writes ENTRIES behind what THE ARCHIVE has; that there is room is tested before. */
    private static final class ArchiveWriter {
        private final Row archive;
        /** The longest ROWS of one ENTRY together stay below two BLOCKS. */
        private final Row rows = new Row(2 * BLOCK);
        private final Row value = new Row(40);

        ArchiveWriter(Row archive) {
            this.archive = archive;
        }

        int lengthOf(Entry e, int family) {
            int length = BLOCK + filled(e.size);
            if (family == EXTENDED) {
                makeRows(e);
                length += rows.count() > 0 ? BLOCK + filled(rows.count()) : 0;
            }
            if (family == LONG) {
                length += longLength(e.link) + longLength(e.name);
            }
            return length;
        }

        private static int longLength(Row row) {
            return row.count() > NAME_FIELD ? BLOCK + filled(row.count() + 1) : 0;
        }

        void append(Entry e, int family) {
            if (family == EXTENDED) {
                appendRows(e);
            }
            if (family == LONG) {
                appendLong(LONG_LINK, e.link);
                appendLong(LONG_NAME, e.name);
            }
            int head = beginHead(e.kind, e.numbers[MODE], e.size, family);
            setNames(head, e, family);
            setNumber(head + UID_AT, SHORT_FIELD, e.numbers[UID], family);
            setNumber(head + GID_AT, SHORT_FIELD, e.numbers[GID], family);
            setNumber(head + TIME_AT, WIDE_FIELD, e.numbers[TIME], family);
            seal(head);
            for (int i = 0; i < e.size; i++) {
                archive.add(e.dataByte(i));
            }
            fillBlock();
        }

        /** Writes the SUM of a HEAD anew. */
        int seal(int head) {
            int total = sumOf(archive, head, false);
            archive.setOctal(head + SUM_AT, SHORT_FIELD - 2, total);
            archive.set(head + SUM_AT + SHORT_FIELD - 2, 0);
            archive.set(head + SUM_AT + SHORT_FIELD - 1, SPACE);
            return total;
        }

        private int beginHead(int kind, long mode, int size, int family) {
            int head = archive.count();
            archive.addZeros(BLOCK);
            setField(head + MODE_AT, SHORT_FIELD, mode);
            setField(head + SIZE_AT, WIDE_FIELD, size);
            archive.set(head + KIND_AT, kind);
            if (family == LONG) {
                archive.setAll(head + MAGIC_AT, LONG_MAGIC);
            } else if (family != OLD) {
                archive.setAll(head + MAGIC_AT, USTAR_MAGIC);
            }
            return head;
        }

        private void setNames(int head, Entry e, int family) {
            int n = e.name.count();
            boolean mayPart = n > NAME_FIELD && (family == USTAR || family == EXTENDED);
            int split = mayPart ? e.split() : BAD;
            if (split > 0) {
                archive.setPart(head + FRONT_AT, e.name, 0, split);
                archive.setPart(head + NAME_AT, e.name, split + 1, n);
            } else {
                archive.setPart(head + NAME_AT, e.name, 0, Math.min(n, NAME_FIELD));
            }
            archive.setPart(head + LINK_AT, e.link, 0, Math.min(e.link.count(), NAME_FIELD));
        }

        private void setNumber(int at, int width, long v, int family) {
            if (Entry.fits(v, width)) {
                setField(at, width, v);
            } else if (family == LONG) {
                setBy256(at, width, v);
            } else {
                setField(at, width, 0);
            }
        }

        private void setField(int at, int width, long v) {
            archive.setOctal(at, width - 1, v);
        }

        private void setBy256(int at, int width, long v) {
            long rest = v;
            for (int i = width - 1; i > 0; i--) {
                archive.set(at + i, (int) (rest & 255));
                rest >>= 8;
            }
            archive.set(at, v < 0 ? 255 : 128);
        }

        private void appendRows(Entry e) {
            makeRows(e);
            if (rows.count() > 0) {
                appendAheadHead(ROWS_FOR_NEXT, "PaxHeader", rows.count(), EXTENDED);
                archive.addPart(rows, 0, rows.count());
                fillBlock();
            }
        }

        private void appendLong(int kind, Row row) {
            if (row.count() > NAME_FIELD) {
                appendAheadHead(kind, "././@LongLink", row.count() + 1, LONG);
                archive.addPart(row, 0, row.count());
                archive.add(0);
                fillBlock();
            }
        }

        private void appendAheadHead(int kind, String name, int size, int family) {
            int head = beginHead(kind, FIRST_MODE, size, family);
            archive.setText(head + NAME_AT, name);
            setField(head + UID_AT, SHORT_FIELD, 0);
            setField(head + GID_AT, SHORT_FIELD, 0);
            setField(head + TIME_AT, WIDE_FIELD, 0);
            seal(head);
        }

        private void fillBlock() {
            archive.addZeros(filled(archive.count()) - archive.count());
        }

        private void makeRows(Entry e) {
            rows.empty();
            if (!e.isNameInFields()) {
                addRow("path", e.name);
            }
            if (e.link.count() > NAME_FIELD) {
                addRow("linkpath", e.link);
            }
            if (!Entry.fits(e.numbers[UID], SHORT_FIELD)) {
                addNumberRow("uid", e.numbers[UID]);
            }
            if (!Entry.fits(e.numbers[GID], SHORT_FIELD)) {
                addNumberRow("gid", e.numbers[GID]);
            }
            if (!Entry.fits(e.numbers[TIME], WIDE_FIELD) || e.numbers[NANOS] != 0) {
                makeTime(e.numbers[TIME], (int) e.numbers[NANOS]);
                addRow("mtime", value);
            }
        }

        private void addNumberRow(String key, long v) {
            value.empty();
            value.addDecimal(v);
            addRow(key, value);
        }

        private void addRow(String key, Row content) {
            int rest = key.length() + content.count() + 3;
            // The length counts its own digits, and these may make it one digit longer.
            int guess = rest + Row.decimalWidth(rest);
            rows.addDecimal(rest + Row.decimalWidth(guess));
            rows.add(SPACE);
            rows.addText(key);
            rows.add(EQUALS);
            rows.addPart(content, 0, content.count());
            rows.add(NEWLINE);
        }

        private void makeTime(long time, int nanos) {
            boolean below = time < 0;
            // NANOS count upwards from TIME, the digits behind the 46 away from 0.
            boolean turned = below && nanos > 0;
            long whole = turned ? -(time + 1) : Math.abs(time);
            value.empty();
            if (below) {
                value.add(MINUS);
            }
            value.addDecimal(whole);
            addFraction(turned ? BILLION - nanos : nanos);
        }

        private void addFraction(int nanos) {
            if (nanos > 0) {
                value.add(DOT);
            }
            int rest = nanos;
            for (int unit = BILLION / 10; unit > 0 && rest > 0; unit /= 10) {
                value.add(ZERO + rest / unit);
                rest %= unit;
            }
        }
    }

    /** The FAULT that ended a reading; kind 0: none. */
    private static final class Fault {
        static final int OVER = -1;

        int kind = 0;
        int place = 0;

        void forget() {
            kind = 0;
            place = 0;
        }

        int end(int ofKind, int atPlace) {
            kind = ofKind;
            place = atPlace;
            return OVER;
        }
    }

    /** One ENTRY that was FOUND; its values stand as found() counts them. */
    private static final class Found {
        final long[] values = new long[12];
        final Row name = new Row(MOST_LETTERS);
        final Row link = new Row(MOST_LETTERS);
    }

    /** What ROWS (or long names) tell of ENTRIES that come; a name of no bytes is none told. */
    private static final class Ahead {
        final Row name = new Row(MOST_LETTERS);
        final Row link = new Row(MOST_LETTERS);
        long uid = BAD;
        long gid = BAD;
        long size = BAD;
        boolean hasTime = false;
        long time = 0;
        long nanos = 0;

        void forget() {
            name.empty();
            link.empty();
            uid = BAD;
            gid = BAD;
            size = BAD;
            hasTime = false;
        }

        boolean tellsSomething() {
            return name.count() > 0 || link.count() > 0 || uid >= 0 || gid >= 0 || size >= 0 || hasTime;
        }

        boolean takeTime(Row from, int begin, int end) {
            boolean below = from.at(begin) == MINUS && begin < end;
            int first = below ? begin + 1 : begin;
            int dot = from.find(DOT, first, end);
            long whole = from.decimal(first, dot, 16);
            long part = dot < end ? from.decimal(dot + 1, end, 9) : 0;
            if (whole < 0 || part < 0) {
                return false;
            }
            for (int digits = end - dot - 1; dot < end && digits < 9; digits++) {
                part *= 10;
            }
            hasTime = true;
            boolean turned = below && part > 0;
            time = turned ? -whole - 1 : below ? -whole : whole;
            nanos = turned ? BILLION - part : part;
            return true;
        }
    }

    /** Reads the DATA of KINDS 120 and 103. */
    private static final class RowReader {
        private final Row archive;
        private final Fault fault;
        private int keyAt = 0;
        private int valueAt = 0;
        private int newlineAt = 0;

        RowReader(Row archive, Fault fault) {
            this.archive = archive;
            this.fault = fault;
        }

        /** Takes all ROWS; false after a FAULT. */
        boolean takeRows(Ahead into, int begin, int end) {
            int row = begin;
            for (int i = begin; i < end && row < end; i++) {
                if (!findParts(row, end)) {
                    fault.end(8, row);
                    return false;
                }
                if (!takeValue(into)) {
                    fault.end(9, valueAt);
                    return false;
                }
                row = newlineAt + 1;
            }
            return true;
        }

        private boolean findParts(int row, int end) {
            int i = row;
            int length = 0;
            while (i < end && i - row < 4 && archive.at(i) >= ZERO && archive.at(i) <= ZERO + 9) {
                length = length * 10 + archive.at(i) - ZERO;
                i++;
            }
            if (i == row || i >= end || archive.at(i) != SPACE) {
                return false;
            }
            keyAt = i + 1;
            newlineAt = row + length - 1;
            if (newlineAt < keyAt || newlineAt >= end || archive.at(newlineAt) != NEWLINE) {
                return false;
            }
            valueAt = archive.find(EQUALS, keyAt, newlineAt) + 1;
            return valueAt <= newlineAt;
        }

        private boolean takeValue(Ahead into) {
            if (isKey("path")) {
                return hasNoZero() && into.name.become(archive, valueAt, newlineAt);
            }
            if (isKey("linkpath")) {
                return hasNoZero() && into.link.become(archive, valueAt, newlineAt);
            }
            if (isKey("mtime")) {
                return into.takeTime(archive, valueAt, newlineAt);
            }
            if (isKey("uid")) {
                into.uid = takeNumber();
                return into.uid >= 0;
            }
            if (isKey("gid")) {
                into.gid = takeNumber();
                return into.gid >= 0;
            }
            if (isKey("size")) {
                into.size = takeNumber();
                return into.size >= 0;
            }
            return true;
        }

        private boolean isKey(String key) {
            return archive.holds(keyAt, valueAt - 1, key);
        }

        private boolean hasNoZero() {
            return archive.find(0, valueAt, newlineAt) == newlineAt;
        }

        private long takeNumber() {
            return archive.decimal(valueAt, newlineAt, 18);
        }
    }

    /** The numbers of one HEAD, as read. */
    private static final class HeadNumbers {
        private static final int[] PLACES = {MODE_AT, UID_AT, GID_AT, SIZE_AT, TIME_AT};
        private static final int[] WIDTHS = {
            SHORT_FIELD, SHORT_FIELD, SHORT_FIELD, WIDE_FIELD, WIDE_FIELD
        };

        private final Row archive;
        private long taken = 0;
        long mode = 0;
        long uid = 0;
        long gid = 0;
        long size = 0;
        long time = 0;

        HeadNumbers(Row archive) {
            this.archive = archive;
        }

        /** Whether SUM is that of the BLOCK, by either way of counting. */
        boolean isSumRight(int head) {
            return takeOctal(head + SUM_AT, SHORT_FIELD)
                && (taken == sumOf(archive, head, false) || taken == sumOf(archive, head, true));
        }

        /** Takes the numbers; the place of the first that is none, or BAD. */
        int take(int head) {
            for (int i = 0; i < PLACES.length && i < WIDTHS.length; i++) {
                int at = head + PLACES[i];
                if (!takeField(at, WIDTHS[i]) || PLACES[i] == SIZE_AT && taken < 0) {
                    return at;
                }
                keep(PLACES[i]);
            }
            return BAD;
        }

        private void keep(int place) {
            switch (place) {
                case MODE_AT: mode = taken; break;
                case UID_AT: uid = taken; break;
                case GID_AT: gid = taken; break;
                case SIZE_AT: size = taken; break;
                default: time = taken; break;
            }
        }

        private boolean takeField(int at, int width) {
            int first = archive.at(at);
            return first == 128 || first == 255 ? takeBy256(at, width) : takeOctal(at, width);
        }

        private boolean takeOctal(int at, int width) {
            int end = at + width;
            int i = at;
            while (i < end && archive.at(i) == SPACE) {
                i++;
            }
            taken = 0;
            while (i < end && archive.at(i) >= ZERO && archive.at(i) <= ZERO + 7) {
                taken = taken * 8 + archive.at(i) - ZERO;
                i++;
            }
            while (i < end && (archive.at(i) == SPACE || archive.at(i) == 0)) {
                i++;
            }
            return i == end;
        }

        private boolean takeBy256(int at, int width) {
            boolean below = archive.at(at) == 255;
            int end = at + width;
            // Bytes above the last eight must all be like the sign, or it is no long.
            int low = Math.max(at + 1, end - 8);
            for (int i = at + 1; i < low; i++) {
                if (archive.at(i) != (below ? 255 : 0)) {
                    return false;
                }
            }
            taken = below ? -1 : 0;
            for (int i = low; i < end; i++) {
                taken = taken << 8 | archive.at(i);
            }
            return taken < 0 == below;
        }
    }

    /** The bits of UNSAFE. */
    private static final class Unsafe {
        static int bits(int kind, Row name, Row link) {
            int bits = name.at(0) == SLASH ? 1 : 0;
            bits |= hasUp(name) ? 2 : 0;
            if (kind == HARD_LINK || kind == SOFT_LINK) {
                bits |= link.at(0) == SLASH ? 4 : 0;
            }
            if (kind == HARD_LINK) {
                bits |= hasUp(link) ? 8 : 0;
            }
            if (kind == SOFT_LINK) {
                bits |= comesBelow(link, heightOf(name)) ? 8 : 0;
            }
            return bits;
        }

        private static boolean hasUp(Row row) {
            int begin = 0;
            for (int i = 0; i <= row.count(); i++) {
                if (isPartEnd(row, i)) {
                    if (step(row, begin, i) < 0) {
                        return true;
                    }
                    begin = i + 1;
                }
            }
            return false;
        }

        /** HEIGHT behind the parts of a NAME; the last one ends with no 47 and is left out. */
        private static int heightOf(Row name) {
            int height = 0;
            int begin = 0;
            for (int i = 0; i < name.count(); i++) {
                if (isPartEnd(name, i)) {
                    height = Math.max(0, height + step(name, begin, i));
                    begin = i + 1;
                }
            }
            return height;
        }

        private static boolean comesBelow(Row link, int from) {
            int height = from;
            int begin = 0;
            for (int i = 0; i <= link.count(); i++) {
                if (isPartEnd(link, i)) {
                    height += step(link, begin, i);
                    begin = i + 1;
                }
                if (height < 0) {
                    return true;
                }
            }
            return false;
        }

        private static boolean isPartEnd(Row row, int i) {
            return i == row.count() || row.at(i) == SLASH;
        }

        /** What one part does to HEIGHT. */
        private static int step(Row row, int begin, int end) {
            if (begin == end || end - begin == 1 && row.at(begin) == DOT) {
                return 0;
            }
            return end - begin == 2 && row.at(begin) == DOT && row.at(begin + 1) == DOT ? -1 : 1;
        }
    }

    /** Reads THE ARCHIVE; what was FOUND is copied, so that it outlives changes of the bytes. */
    private static final class ArchiveReader {
        private final Row archive;
        private final Found[] all = new Found[MOST_FOUND];
        private final Ahead forNext = new Ahead();
        private final Ahead forAll = new Ahead();
        private final HeadNumbers numbers;
        private final RowReader rows;
        final Fault fault = new Fault();
        int foundCount = 0;
        int ends = 0;

        ArchiveReader(Row archive) {
            this.archive = archive;
            numbers = new HeadNumbers(archive);
            rows = new RowReader(archive, fault);
            for (int i = 0; i < all.length; i++) {
                all[i] = new Found();
            }
        }

        Found at(int i) {
            return i >= 0 && i < foundCount && i < all.length ? all[i] : null;
        }

        int run(boolean on) {
            fault.forget();
            forNext.forget();
            forAll.forget();
            foundCount = 0;
            ends = 0;
            int p = 0;
            // Every round passes one BLOCK at least, or is the last.
            for (int round = 0; round <= ARCHIVE_ROOM / BLOCK && p >= 0; round++) {
                int left = archive.count() - p;
                if (left == 0) {
                    p = fault.end(forNext.tellsSomething() ? 12 : 1, p);
                } else if (left < BLOCK) {
                    p = fault.end(2, p);
                } else if (isBlank(p)) {
                    p = passEnd(p, on);
                } else {
                    p = passHead(p);
                }
            }
            return foundCount;
        }

        /** Whether a whole BLOCK of 0s is at a place. */
        private boolean isBlank(int p) {
            if (archive.count() - p < BLOCK) {
                return false;
            }
            for (int i = p; i < p + BLOCK; i++) {
                if (archive.at(i) != 0) {
                    return false;
                }
            }
            return true;
        }

        private int passEnd(int p, boolean on) {
            if (!isBlank(p + BLOCK)) {
                return fault.end(3, p);
            }
            ends++;
            if (forNext.tellsSomething()) {
                return fault.end(12, p);
            }
            if (!on) {
                return Fault.OVER;
            }
            int q = p + 2 * BLOCK;
            while (q <= archive.count() - BLOCK && isBlank(q)) {
                q += BLOCK;
            }
            return archive.count() - q < BLOCK ? Fault.OVER : q;
        }

        private int passHead(int p) {
            if (!numbers.isSumRight(p)) {
                return fault.end(4, p + SUM_AT);
            }
            int wrong = numbers.take(p);
            if (wrong >= 0) {
                return fault.end(5, wrong);
            }
            int kind = archive.at(p + KIND_AT) == 0 ? FILE : archive.at(p + KIND_AT);
            boolean isEntry = isEntryKind(kind);
            if (!isEntry && !isAheadKind(kind)) {
                return fault.end(6, p + KIND_AT);
            }
            long size = isEntry ? pick(forNext.size, forAll.size, numbers.size) : numbers.size;
            int data = p + BLOCK;
            // The long is compared first: what is filled must not run over.
            if (size > archive.count() - data || filled((int) size) > archive.count() - data) {
                return fault.end(7, p);
            }
            int end = data + (int) size;
            boolean goesOn;
            if (isEntry) {
                goesOn = takeEntry(p, kind, size);
            } else if (kind == ROWS_FOR_NEXT || kind == ROWS_FOR_ALL) {
                goesOn = rows.takeRows(kind == ROWS_FOR_NEXT ? forNext : forAll, data, end);
            } else {
                goesOn = takeLong(kind == LONG_LINK ? forNext.link : forNext.name, data, end);
            }
            return goesOn ? data + filled((int) size) : Fault.OVER;
        }

        private static boolean isAheadKind(int kind) {
            return kind == ROWS_FOR_NEXT || kind == ROWS_FOR_ALL || kind == LONG_LINK || kind == LONG_NAME;
        }

        private static long pick(long next, long forEach, long field) {
            return next >= 0 ? next : forEach >= 0 ? forEach : field;
        }

        private boolean takeLong(Row into, int data, int end) {
            if (!into.become(archive, data, archive.find(0, data, end))) {
                fault.end(9, data);
                return false;
            }
            return true;
        }

        private boolean takeEntry(int p, int kind, long size) {
            if (foundCount < 0 || foundCount >= all.length) {
                fault.end(10, p);
                return false;
            }
            Found one = all[foundCount];
            takeName(one.name, p);
            takeLink(one.link, p);
            if (one.name.count() == 0) {
                fault.end(11, p);
                return false;
            }
            boolean isFolder = kind == FILE && !hasMagic(p) && one.name.endsWithSlash();
            int foundKind = isFolder ? FOLDER : kind;
            setValues(one, foundKind, p, size);
            one.values[11] = Unsafe.bits(foundKind, one.name, one.link);
            foundCount++;
            forNext.forget();
            return true;
        }

        private void setValues(Found one, int kind, int p, long size) {
            Ahead timed = forNext.hasTime ? forNext : forAll;
            one.values[0] = kind;
            one.values[1] = numbers.mode;
            one.values[2] = pick(forNext.uid, forAll.uid, numbers.uid);
            one.values[3] = pick(forNext.gid, forAll.gid, numbers.gid);
            one.values[4] = size;
            one.values[5] = timed.hasTime ? timed.time : numbers.time;
            one.values[6] = timed.hasTime ? timed.nanos : 0;
            one.values[7] = p;
            one.values[8] = p + BLOCK;
            one.values[9] = one.name.count();
            one.values[10] = one.link.count();
        }

        private void takeName(Row into, int p) {
            into.empty();
            Row ahead = forNext.name.count() > 0 ? forNext.name : forAll.name;
            if (ahead.count() > 0) {
                into.addPart(ahead, 0, ahead.count());
                return;
            }
            // Of LONG the bytes of FRONT mean something else: the 0 tells them apart.
            if (hasMagic(p) && archive.at(p + MAGIC_AT + 5) == 0) {
                addField(into, p + FRONT_AT, FRONT_FIELD);
            }
            if (into.count() > 0) {
                into.add(SLASH);
            }
            addField(into, p + NAME_AT, NAME_FIELD);
        }

        private void takeLink(Row into, int p) {
            into.empty();
            Row ahead = forNext.link.count() > 0 ? forNext.link : forAll.link;
            if (ahead.count() > 0) {
                into.addPart(ahead, 0, ahead.count());
            } else {
                addField(into, p + LINK_AT, NAME_FIELD);
            }
        }

        private void addField(Row into, int at, int width) {
            into.addPart(archive, at, archive.find(0, at, at + width));
        }

        private boolean hasMagic(int p) {
            return archive.holds(p + MAGIC_AT, p + MAGIC_AT + 5, "ustar");
        }
    }
}
