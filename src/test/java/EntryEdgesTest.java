/** Part 1 and promises 1 to 8, a method for each sentence that names a boundary, with its words. */
public final class EntryEdgesTest {
    private static final Check CHECK = new Check();
    private static final int BAD = -1, NOT = -2, FULL = -3;
    private static final int MIN = Integer.MIN_VALUE, MAX = Integer.MAX_VALUE;

    public static void main(String[] args) {
        tapeRoom();
        tapeBytes();
        cut();
        nameLengths();
        nameZeros();
        nameAnew();
        numbers();
        mostAndLeastTogether();
        kinds();
        sizes();
        linkOrNone();
        eightEntries();
        dataBytes();
        emptyDraft();
        clear();
        bestWithoutAny();
        bestIsOfAll();
        bestIsLeast();
        lastCalls();
        CHECK.close();
    }

    private static void due(String call, long got, long want) {
        CHECK.due(call, got, want);
    }

    /** So many bytes on THE TAPE, none of them 0. */
    private static TarForms withTape(int n) {
        TarForms x = new TarForms();
        Calls.tape(x, Calls.text('t', n));
        due("told(6)", x.told(6), n);
        return x;
    }

    /** "THE TAPE has at most 512 bytes"; "Sixteen bytes more of THE TAPE: how many it has. FULL". */
    private static void tapeRoom() {
        for (int n = 0; n <= 512; n++) {
            TarForms x = withTape(n);
            boolean isRoom = n <= 496;
            due("feed behind " + n, x.feed(0, -1, MIN, MAX), isRoom ? n + 16 : FULL);
            due("feed behind " + n + ": told(6)", x.told(6), isRoom ? n + 16 : n);
        }
    }

    /** "Sixteen bytes more, the highest of each number first". */
    private static void tapeBytes() {
        TarForms x = new TarForms();
        x.feed(0x01020380, 0x81FEFF7F, 0x80010101, 0xFFFFFF01);
        due("name", x.name(false), 16);
        x.entry(48, 0, 0);
        x.write(0, false);
        x.read(false);
        CHECK.due("NAME", Calls.letters(x, 0, false),
            "\1\2\3\200\201\376\377\177\200\1\1\1\377\377\377\1");
    }

    /** "THE TAPE keeps its first n bytes: how many went. BAD". */
    private static void cut() {
        for (int n : new int[] {0, 1, 15, 16, 17, 400, 511, 512}) {
            due("cut of one more than " + n, withTape(n).cut(n + 1), BAD);
            due("cut(-1) of " + n, withTape(n).cut(-1), BAD);
            due("cut(min) of " + n, withTape(n).cut(MIN), BAD);
            due("cut(max) of " + n, withTape(n).cut(MAX), BAD);
            TarForms x = withTape(n);
            due("cut to all of " + n, x.cut(n), 0);
            due("cut to all: told(6)", x.told(6), n);
            if (n > 0) {
                due("cut to all but one of " + n, x.cut(n - 1), 1);
                due("cut to all but one: told(6)", x.told(6), n - 1);
                due("cut to none of " + n, x.cut(0), n - 1);
            }
            due("cut to none: told(6)", x.told(6), 0);
        }
    }

    /** "THE TAPE (empty then) is THE DRAFT's NAME, LINK: how many bytes. NOT: none, more than 400". */
    private static void nameLengths() {
        for (int n = 0; n <= 512; n++) {
            boolean isName = n >= 1 && n <= 400;
            for (boolean link : new boolean[] {false, true}) {
                TarForms x = withTape(n);
                due("name(" + link + ") of " + n, x.name(link), isName ? n : NOT);
                due("name(" + link + ") of " + n + ": told(6)", x.told(6), isName ? 0 : n);
            }
        }
    }

    /** "NOT: a 0 (THE TAPE stays)"; "rows of bytes, none 0". */
    private static void nameZeros() {
        String row = Calls.text('r', 400);
        for (int place : new int[] {0, 1, 15, 16, 200, 398, 399}) {
            for (boolean link : new boolean[] {false, true}) {
                TarForms x = new TarForms();
                Calls.tape(x, row.substring(0, place) + "\0" + row.substring(place + 1));
                due("a 0 at " + place, x.name(link), NOT);
                due("a 0 at " + place + ": told(6)", x.told(6), 400);
                due("cut ahead of it", x.cut(place), 400 - place);
                due("what is ahead of it", x.name(link), place == 0 ? NOT : place);
            }
        }
        for (char c : new char[] {1, 47, 127, 128, 255}) {
            TarForms x = new TarForms();
            Calls.tape(x, "" + c);
            due("a byte " + (int) c, x.name(false), 1);
        }
    }

    /** A later name() is in place of an earlier one, whole, and leaves the other row alone. */
    private static void nameAnew() {
        TarForms x = new TarForms();
        Calls.name(x, Calls.text('n', 400));
        Calls.link(x, Calls.text('l', 400));
        Calls.name(x, "short");
        due("name of none", x.name(false), NOT);
        x.entry(49, 0, 0);
        x.write(2, false);
        x.read(false);
        CHECK.due("NAME", Calls.letters(x, 0, false), "short");
        due("LINK", x.found(0, 10), 400);
    }

    private static final long[] LEAST = {0, 0, 0, -(1L << 40), 0};
    private static final long[] MOST = {4095, 1L << 55, 1L << 55, 1L << 50, 999999999};
    private static final int[] FOUND_AS = {1, 2, 3, 5, 6};

    /** "MODE (0 .. 4095), UID, GID (0 .. 2^55), TIME (- 2^40 .. 2^50), NANOS (0 .. 999999999)". */
    private static void numbers() {
        for (int what = 0; what < 5; what++) {
            long[] taken = {LEAST[what], LEAST[what] + 1, MOST[what] - 1, MOST[what], 0};
            for (long v : taken) {
                TarForms x = new TarForms();
                due("number(" + what + ", " + v + ")", x.number(what, v), 1);
                due("below it", x.number(what, LEAST[what] - 1), BAD);
                due("above it", x.number(what, MOST[what] + 1), BAD);
                due("far below it", x.number(what, Long.MIN_VALUE), BAD);
                due("far above it", x.number(what, Long.MAX_VALUE), BAD);
                Calls.file(x, "a", 0, 0);
                x.write(2, false);
                x.read(false);
                for (int other = 0; other < 5; other++) {
                    long first = other == 0 ? 420 : 0;
                    due("number " + other + " behind it", x.found(0, FOUND_AS[other]), other == what ? v : first);
                }
            }
        }
        for (int what : new int[] {-1, 5, MIN, MAX}) {
            due("number(" + what + ", 0)", new TarForms().number(what, 0), BAD);
        }
    }

    private static void mostAndLeastTogether() {
        for (long[] all : new long[][] {LEAST, MOST}) {
            TarForms x = new TarForms();
            for (int what = 0; what < 5; what++) {
                x.number(what, all[what]);
            }
            Calls.file(x, "a", 4000, 0);
            x.write(2, false);
            x.read(false);
            for (int what = 0; what < 5; what++) {
                due("number " + what, x.found(0, FOUND_AS[what]), all[what]);
            }
        }
    }

    /** "BAD: no such KIND": 48, 49, 50, 53 there are. */
    private static void kinds() {
        for (int kind = -2; kind <= 310; kind++) {
            TarForms x = new TarForms();
            Calls.name(x, "n");
            boolean isLink = kind == 49 || kind == 50;
            if (isLink) {
                Calls.link(x, "l");
            }
            due("entry(" + kind + ")", x.entry(kind, 0, 0), kind == 48 || kind == 53 || isLink ? 0 : BAD);
        }
        for (int kind : new int[] {MIN, MAX, 48 + 65536, 48 - 256}) {
            TarForms x = new TarForms();
            Calls.name(x, "n");
            due("entry(" + kind + ")", x.entry(kind, 0, 0), BAD);
        }
    }

    /** "DATA (of a file; 0 .. 4000 bytes)"; "BAD: size (0 of others than files)". */
    private static void sizes() {
        int[] sizes = {MIN, -512, -1, 0, 1, 3999, 4000, 4001, 4096, MAX};
        for (int kind : new int[] {48, 49, 50, 53}) {
            for (int size : sizes) {
                TarForms x = new TarForms();
                Calls.name(x, "n");
                if (kind == 49 || kind == 50) {
                    Calls.link(x, "l");
                }
                boolean isSize = kind == 48 ? size >= 0 && size <= 4000 : size == 0;
                due("entry(" + kind + ", " + size + ")", x.entry(kind, size, 0), isSize ? 0 : BAD);
                if (isSize) {
                    due("blocks", x.write(1, false), 1536 + (size + 511) / 512 * 512);
                    x.read(false);
                    due("SIZE", x.found(0, 4), size);
                }
            }
        }
    }

    /** "NOT: no NAME, or a LINK (KINDS 49, 50) lacks, or there is one else". */
    private static void linkOrNone() {
        for (int kind : new int[] {48, 49, 50, 53}) {
            boolean isLink = kind == 49 || kind == 50;
            TarForms x = new TarForms();
            due(kind + " of nothing", x.entry(kind, 0, 0), NOT);
            Calls.link(x, "l");
            due(kind + " without NAME", x.entry(kind, 0, 0), NOT);
            Calls.name(x, "n");
            due(kind + " with both", x.entry(kind, 0, 0), isLink ? 0 : NOT);
            x = new TarForms();
            Calls.name(x, "n");
            due(kind + " without LINK", x.entry(kind, 0, 0), isLink ? NOT : 0);
        }
    }

    /** "ENTRIES, 8 at most"; "an ENTRY more: its number. FULL". */
    private static void eightEntries() {
        TarForms x = new TarForms();
        for (int round = 0; round < 2; round++) {
            for (int i = 0; i < 8; i++) {
                due("told(5)", x.told(5), i);
                due("entry " + i, Calls.file(x, "f" + i, 0, 0), i);
            }
            due("told(5) of eight", x.told(5), 8);
            for (int i = 0; i < 3; i++) {
                due("a ninth", Calls.file(x, "ninth", 0, 0), FULL);
                due("told(5) behind it", x.told(5), 8);
            }
            x.write(0, false);
            due("read", x.read(false), 8);
            for (int i = 0; i < 8; i++) {
                CHECK.due("NAME " + i, Calls.letters(x, i, false), "f" + i);
            }
            due("clear", x.clear(), 8);
        }
    }

    /** "byte i is the lowest 8 bits of h ^ (h >>> 15), h being (seed + i) times 0x9E3779B1". */
    private static void dataBytes() {
        for (int seed : new int[] {0, 1, -1, -3999, -4000, MAX, MAX - 3999, MAX - 3998, MIN, 0x9E3779B1}) {
            TarForms x = new TarForms();
            Calls.file(x, "d", 4000, seed);
            x.write(0, false);
            for (int i : new int[] {0, 1, 2, 255, 256, 511, 512, 3998, 3999}) {
                int h = (seed + i) * 0x9E3779B1;
                due("byte " + i + " of seed " + seed, x.octet(512 + i), (h ^ (h >>> 15)) & 255);
            }
            due("behind the last byte", x.octet(4512), 0);
            due("the last one that fills", x.octet(512 + 4095), 0);
        }
    }

    private static void dueEmptyDraft(String when, TarForms x) {
        for (int kind : new int[] {48, 49, 50, 53}) {
            due(when + ": no NAME", x.entry(kind, 0, 0), NOT);
        }
        Calls.name(x, "n");
        due(when + ": no LINK", x.entry(50, 0, 0), NOT);
        int number = x.told(5);
        due(when + ": taken", x.entry(48, 0, 0), number);
        x.write(2, false);
        x.read(false);
        long[] first = {420, 0, 0, 0, 0};
        for (int what = 0; what < 5; what++) {
            due(when + ": number " + what, x.found(number, FOUND_AS[what]), first[what]);
        }
        due(when + ": LINK", x.found(number, 10), 0);
        due(when + ": NAME", x.found(number, 9), 1);
    }

    private static void fillDraft(TarForms x) {
        for (int what = 0; what < 5; what++) {
            x.number(what, MOST[what]);
        }
        Calls.name(x, Calls.text('n', 400));
        Calls.link(x, Calls.text('l', 400));
    }

    /** "THE DRAFT is empty: no NAME, no LINK, MODE 420, numbers 0": new, behind entry() and clear(). */
    private static void emptyDraft() {
        dueEmptyDraft("new", new TarForms());
        TarForms x = new TarForms();
        fillDraft(x);
        due("entry", x.entry(50, 0, 0), 0);
        dueEmptyDraft("behind entry", x);
        fillDraft(x);
        due("clear", x.clear(), 2);
        dueEmptyDraft("behind clear", x);
        x = new TarForms();
        for (int i = 0; i < 8; i++) {
            Calls.file(x, "f" + i, 0, 0);
        }
        fillDraft(x);
        due("FULL", x.entry(50, 0, 0), FULL);
        due("clear of eight", x.clear(), 8);
        dueEmptyDraft("behind eight", x);
    }

    /** "No ENTRIES, an empty DRAFT: how many ENTRIES there were". */
    private static void clear() {
        for (int n = 0; n <= 8; n++) {
            TarForms x = new TarForms();
            for (int i = 0; i < n; i++) {
                Calls.file(x, "f" + i, 0, 0);
            }
            Calls.tape(x, "tape");
            int bytes = x.write(0, false);
            x.read(false);
            due("clear of " + n, x.clear(), n);
            due("told(5)", x.told(5), 0);
            due("clear again", x.clear(), 0);
            due("FOUND stays", x.told(2), n);
            due("THE ARCHIVE stays", x.told(4), bytes);
            due("THE TAPE stays", x.told(6), 4);
            due("nothing is WRITTEN", x.write(0, false), 1024);
        }
    }

    /** "0 without any": THE DRAFT does not count. */
    private static void bestWithoutAny() {
        TarForms x = new TarForms();
        due("best of none", x.best(), 0);
        fillDraft(x);
        due("best of a DRAFT", x.best(), 0);
        x.entry(50, 0, 0);
        due("best of it as an ENTRY", x.best(), 2);
        x.clear();
        due("best behind clear", x.best(), 0);
    }

    /** "The least FAMILY of which all ENTRIES are": one of eight makes the difference. */
    private static void bestIsOfAll() {
        for (int other = 0; other < 8; other++) {
            for (int family = 0; family <= 2; family++) {
                TarForms x = new TarForms();
                for (int i = 0; i < 8; i++) {
                    boolean isIt = i == other;
                    x.number(4, isIt && family == 2 ? 1 : 0);
                    Calls.name(x, "n" + i);
                    x.entry(isIt && family == 1 ? 53 : 48, 0, 0);
                }
                due("best by ENTRY " + other, x.best(), family);
            }
        }
    }

    /** What best() answers takes all ENTRIES, and no FAMILY below it does. */
    private static void bestIsLeast() {
        String[] names = {"a", "a/", Calls.text('a', 100), Calls.text('a', 101), "d/" + Calls.text('a', 100)};
        long[][] numbers = {{1, 0}, {1, 2097151}, {1, 2097152}, {2, 2097152}, {3, -1}, {3, 1L << 33}, {4, 1}};
        for (String name : names) {
            for (long[] number : numbers) {
                TarForms x = new TarForms();
                x.number((int) number[0], number[1]);
                Calls.file(x, name, 0, 0);
                int best = x.best();
                for (int family = 0; family <= best; family++) {
                    boolean isTaken = x.write(family, false) > 0;
                    CHECK.isTrue("best " + best + ", write by " + family, isTaken == (family == best));
                }
            }
        }
    }

    /** "An object is used for at most 512 calls": the last of them answers like the first. */
    private static void lastCalls() {
        TarForms x = new TarForms();
        for (int i = 1; i < 512; i++) {
            due("call " + i, x.number(3, i), 1);
        }
        due("call 512", x.number(3, 1L << 50), 1);
    }
}
