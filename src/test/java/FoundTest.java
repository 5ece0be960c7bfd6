/** Promises 16 and 17: what was FOUND, its NAME and LINK, and what is UNSAFE. */
public final class FoundTest {
    private static final Check CHECK = new Check();
    private static final long NONE = -9000000000000000000L;
    private static final int FILE = 48, HARD = 49, SOFT = 50, FOLDER = 53, ROWS = 120, ROWS_FOR_ALL = 103;

    public static void main(String[] args) {
        allValues();
        noneSuch();
        outlivesChanges();
        namesOfFields();
        fronts();
        folders();
        linksOfAllKinds();
        rowsForNextAndAll();
        unsafeNames();
        unsafeHardLinks();
        unsafeSoftLinks();
        unsafeByToldNames();
        thereAndBack();
        CHECK.close();
    }

    private static void due(String call, long got, long want) {
        CHECK.due(call, got, want);
    }

    private static TarForms read(Raw raw) {
        TarForms x = raw.end().load();
        x.read(false);
        due("FAULT", x.told(0), 0);
        return x;
    }

    private static void allValues() {
        Raw raw = Raw.begin().head(FILE, "first", "abc").head(SOFT, "dir/second").put(157, "../../up");
        raw.put(100, "644").put(108, "1").put(116, "2").put(136, "3");
        TarForms x = read(raw);
        long[] first = {48, 0, 0, 0, 3, 0, 0, 0, 512, 5, 0, 0};
        long[] second = {50, 0644, 1, 2, 0, 3, 0, 1024, 1536, 10, 8, 8};
        for (int what = 0; what < 12; what++) {
            due("found(0, " + what + ")", x.found(0, what), first[what]);
            due("found(1, " + what + ")", x.found(1, what), second[what]);
        }
        CHECK.due("NAME", Calls.letters(x, 1, false), "dir/second");
        CHECK.due("LINK", Calls.letters(x, 1, true), "../../up");
    }

    private static void noneSuch() {
        TarForms x = read(Raw.begin().head(SOFT, "\377b").put(157, "\200"));
        int[] none = {-1, 1, 39, 40, 41, Integer.MIN_VALUE, Integer.MAX_VALUE};
        for (int i : none) {
            due("found(" + i + ", 0)", x.found(i, 0), NONE);
            due("letter(" + i + ", ..)", x.letter(i, false, 0), -1);
        }
        for (int what : new int[] {-1, 12, Integer.MIN_VALUE, Integer.MAX_VALUE}) {
            due("found(0, " + what + ")", x.found(0, what), NONE);
        }
        for (int k : new int[] {-1, 2, 400, Integer.MIN_VALUE, Integer.MAX_VALUE}) {
            due("letter(0, false, " + k + ")", x.letter(0, false, k), -1);
            due("letter(0, true, " + k + ")", x.letter(0, true, k), -1);
        }
        due("a letter above 127", x.letter(0, false, 0), 255);
        due("letter 1", x.letter(0, false, 1), 98);
        due("letter of LINK", x.letter(0, true, 0), 128);
        due("letter behind LINK", x.letter(0, true, 1), -1);
    }

    private static void outlivesChanges() {
        TarForms x = read(Raw.begin().head(SOFT, "name").put(157, "link"));
        x.poke(0, 1);
        x.trim(0);
        x.clear();
        due("KIND", x.found(0, 0), 50);
        CHECK.due("NAME", Calls.letters(x, 0, false), "name");
        CHECK.due("LINK", Calls.letters(x, 0, true), "link");
        x.read(false);
        due("gone", x.found(0, 0), NONE);
        Calls.linkEntry(x, 49, "n", "l");
        x.write(0, false);
        x.read(false);
        CHECK.due("NAME of another read", Calls.letters(x, 0, false), "n");
        CHECK.due("LINK of another read", Calls.letters(x, 0, true), "l");
        x.trim(0);
        x.read(false);
        due("letter gone", x.letter(0, false, 0), -1);
    }

    private static void namesOfFields() {
        String whole = Calls.text('n', 100);
        String link = Calls.text('l', 100);
        TarForms x = read(Raw.begin().head(SOFT, whole).put(157, link));
        CHECK.due("NAME of 100", Calls.letters(x, 0, false), whole);
        CHECK.due("LINK of 100", Calls.letters(x, 0, true), link);
        x = read(Raw.begin().head(SOFT, "ab\0cd").put(157, "e\0f"));
        CHECK.due("NAME up to a 0", Calls.letters(x, 0, false), "ab");
        CHECK.due("LINK up to a 0", Calls.letters(x, 0, true), "e");
    }

    private static String front(String magic, String front, String name) {
        TarForms x = read(Raw.begin().head(FILE, name).put(257, magic).put(345, front));
        return Calls.letters(x, 0, false);
    }

    private static void fronts() {
        String front = Calls.text('f', 155);
        String name = Calls.text('n', 100);
        CHECK.due("FRONT", front("ustar\0" + "00", "f", "n"), "f/n");
        CHECK.due("FRONT of 155", front("ustar\0" + "00", front, name), front + "/" + name);
        CHECK.due("FRONT up to a 0", front("ustar\0" + "00", "f\0g", "n"), "f/n");
        CHECK.due("FRONT begins with 0", front("ustar\0" + "00", "\0g", "n"), "n");
        CHECK.due("FRONT alone", front("ustar\0" + "00", "f", ""), "f/");
        CHECK.due("bytes behind the 0 do not count", front("ustar\0" + "xy", "f", "n"), "f/n");
        CHECK.due("LONG has no FRONT", front("ustar  \0", "f", "n"), "n");
        CHECK.due("OLD has no FRONT", front("", "f", "n"), "n");
        CHECK.due("another MAGIC has none", front("ustaR\0" + "00", "f", "n"), "n");
        CHECK.due("byte 500 is behind FRONT", front("ustar\0" + "00", front + "x", "n"), front + "/n");
        TarForms x = read(Raw.begin().head(76, "L", "told").head(FILE, "n").ustar().put(345, "f"));
        CHECK.due("what is told has no FRONT", Calls.letters(x, 0, false), "told");
        x = read(Raw.begin().head(SOFT, "n").ustar().put(345, "f").put(157, "l"));
        CHECK.due("LINK has no FRONT", Calls.letters(x, 0, true), "l");
    }

    private static long kindOf(int kind, String name, String magic) {
        return read(Raw.begin().head(kind, name).put(257, magic)).found(0, 0);
    }

    private static void folders() {
        due("48 with 47 at its end", kindOf(FILE, "d/", ""), FOLDER);
        due("0 with 47 at its end", kindOf(0, "d/", ""), FOLDER);
        due("of 47 alone", kindOf(FILE, "/", ""), FOLDER);
        due("48 of USTAR", kindOf(FILE, "d/", "ustar\0" + "00"), FILE);
        due("48 of LONG", kindOf(FILE, "d/", "ustar  \0"), FILE);
        due("48 of ustar alone", kindOf(FILE, "d/", "ustar"), FILE);
        due("48 of usta", kindOf(FILE, "d/", "usta"), FOLDER);
        due("48 without 47", kindOf(FILE, "d/e", ""), FILE);
        due("49 with 47", kindOf(HARD, "d/", ""), HARD);
        due("50 with 47", kindOf(SOFT, "d/", ""), SOFT);
        due("53", kindOf(FOLDER, "d", ""), FOLDER);
        TarForms x = read(Raw.begin().head(76, "L", "told/").head(FILE, "n"));
        due("told with 47 at its end", x.found(0, 0), FOLDER);
        x = read(Raw.begin().head(76, "L", "told").head(FILE, "n/"));
        due("told without", x.found(0, 0), FILE);
    }

    private static void linksOfAllKinds() {
        for (int kind : new int[] {FILE, HARD, SOFT, FOLDER}) {
            TarForms x = read(Raw.begin().head(kind, "n").put(157, "l"));
            CHECK.due("LINK of " + kind, Calls.letters(x, 0, true), "l");
            due("length of LINK of " + kind, x.found(0, 10), 1);
        }
        TarForms x = read(Raw.begin().head(75, "L", "told").head(FILE, "n").put(157, "l").head(FILE, "m"));
        CHECK.due("LINK told", Calls.letters(x, 0, true), "told");
        due("for the next alone", x.found(1, 10), 0);
    }

    private static void rowsForNextAndAll() {
        String all = Raw.row("path", "P") + Raw.row("linkpath", "L") + Raw.row("uid", "1") + Raw.row("gid", "2")
            + Raw.row("size", "3") + Raw.row("mtime", "4.5");
        String next = Raw.row("path", "PP") + Raw.row("linkpath", "LL") + Raw.row("uid", "10") + Raw.row("gid", "0")
            + Raw.row("size", "0") + Raw.row("mtime", "-4.25");
        Raw raw = Raw.begin().head(ROWS_FOR_ALL, "g", all).head(FILE, "a", "abc").head(ROWS, "x", next)
            .head(FILE, "b").head(ROWS, "x", Raw.row("gid", "9")).head(FILE, "c", "def");
        TarForms x = read(raw);
        long[][] want = {
            {1, 2, 3, 4, 500000000}, {10, 0, 0, -5, 750000000}, {1, 9, 3, 4, 500000000}
        };
        for (int i = 0; i < 3; i++) {
            for (int what = 2; what <= 6; what++) {
                due("rows: found(" + i + ", " + what + ")", x.found(i, what), want[i][what - 2]);
            }
            CHECK.due("rows: NAME " + i, Calls.letters(x, i, false), i == 1 ? "PP" : "P");
            CHECK.due("rows: LINK " + i, Calls.letters(x, i, true), i == 1 ? "LL" : "L");
        }
        raw = Raw.begin().head(ROWS_FOR_ALL, "g", Raw.row("uid", "1")).head(FILE, "a")
            .head(ROWS_FOR_ALL, "g", Raw.row("uid", "2")).head(FILE, "b").put(136, "7");
        x = read(raw);
        due("for all, first", x.found(0, 2), 1);
        due("for all, later", x.found(1, 2), 2);
        due("TIME of the field", x.found(1, 5), 7);
        x = read(Raw.begin().head(ROWS_FOR_ALL, "g", Raw.row("uid", "0")).head(FILE, "a").put(108, "5"));
        due("for all: a 0", x.found(0, 2), 0);
        raw = Raw.begin().head(ROWS, "x", Raw.row("uid", "1") + Raw.row("gid", "1"))
            .head(ROWS, "x", Raw.row("uid", "2")).head(ROWS_FOR_ALL, "g", Raw.row("gid", "3"))
            .head(FILE, "a").head(FILE, "b").put(108, "5");
        x = read(raw);
        due("two of 120: later ROW", x.found(0, 2), 2);
        due("two of 120: the other one stands", x.found(0, 3), 1);
        due("next ENTRY: the field", x.found(1, 2), 5);
        due("next ENTRY: for all", x.found(1, 3), 3);
    }

    private static long unsafe(int kind, String name, String link) {
        return read(Raw.begin().head(kind, name).put(157, link)).found(0, 11);
    }

    private static void unsafeNames() {
        due("a", unsafe(FILE, "a", ""), 0);
        due("/a", unsafe(FILE, "/a", ""), 1);
        due("..", unsafe(FILE, "..", ""), 2);
        due("../a", unsafe(FILE, "../a", ""), 2);
        due("a/..", unsafe(FILE, "a/..", ""), 2);
        due("a/../b", unsafe(FILE, "a/../b", ""), 2);
        due("/..", unsafe(FOLDER, "/../", ""), 3);
        due("...", unsafe(FILE, ".../a..b/..c/d../.", ""), 0);
        due("a//b", unsafe(FILE, "a//b", ""), 0);
        due("a/..b", unsafe(FILE, "a/..b", ""), 0);
        due("LINK of a file", unsafe(FILE, "a", "/../.."), 0);
        due("LINK of a folder", unsafe(FOLDER, "a", "/../.."), 0);
    }

    private static void unsafeHardLinks() {
        due("49 to b", unsafe(HARD, "a", "b"), 0);
        due("49 to nothing", unsafe(HARD, "a", ""), 0);
        due("49 to /b", unsafe(HARD, "a", "/b"), 4);
        due("49 to ..", unsafe(HARD, "a", ".."), 8);
        due("49 to b/..", unsafe(HARD, "a", "b/.."), 8);
        due("49 to b/../c", unsafe(HARD, "x/y/z", "b/../c"), 8);
        due("49 to /..", unsafe(HARD, "/..", "/.."), 15);
    }

    private static void unsafeSoftLinks() {
        due("50 to b", unsafe(SOFT, "a", "b"), 0);
        due("50 to nothing", unsafe(SOFT, "a", ""), 0);
        due("50 to /b", unsafe(SOFT, "a", "/b"), 4);
        due("50 to ..", unsafe(SOFT, "a", ".."), 8);
        due("50 to b/..", unsafe(SOFT, "a", "b/.."), 0);
        due("50 to b/../..", unsafe(SOFT, "a", "b/../.."), 8);
        due("50 to ../b, below 0 on the way", unsafe(SOFT, "a", "../b/c/d"), 8);
        due("50 in d to ..", unsafe(SOFT, "d/a", ".."), 0);
        due("50 in d to ../..", unsafe(SOFT, "d/a", "../.."), 8);
        due("50 in d to ../..", unsafe(SOFT, "d/a", "../x/../.."), 8);
        due("50 in d/e to ../..", unsafe(SOFT, "d/e/a", "../.."), 0);
        due("50 in d//e to ../..", unsafe(SOFT, "d//e/a", "../.."), 0);
        due("50 in d// to ../..", unsafe(SOFT, "d//a", "../.."), 8);
        due("50 in d/. to ../..", unsafe(SOFT, "d/./a", "../.."), 8);
        due("50 to ./..", unsafe(SOFT, "a", "./.."), 8);
        due("50 to .//..", unsafe(SOFT, "a", "//.."), 12);
        due("50 in d to ./.", unsafe(SOFT, "a", "././b/.."), 0);
        due("50 in d/.. to ..", unsafe(SOFT, "d/../a", ".."), 10);
        due("50 in .. : 0 at least", unsafe(SOFT, "../d/a", ".."), 2);
        due("50 in ../.. : 0 at least", unsafe(SOFT, "../../d/a", "../.."), 10);
        due("50 in d/ : the last part is empty", unsafe(SOFT, "d/a/", "../.."), 0);
        due("50 whose last part is ..", unsafe(SOFT, "d/..", ".."), 2);
        due("50 in /..", unsafe(SOFT, "/../a", ".."), 11);
        due("50 in /d", unsafe(SOFT, "/d/a", ".."), 1);
        due("50 to ...", unsafe(SOFT, "a", ".../.."), 0);
    }

    private static void unsafeByToldNames() {
        TarForms x = read(Raw.begin().head(76, "L", "../n").head(75, "K", "/l").head(HARD, "a").put(157, ".."));
        due("told ahead", x.found(0, 11), 2 + 4);
        x = read(Raw.begin().head(FILE, "a").ustar().put(345, "/.."));
        due("FRONT", x.found(0, 11), 3);
    }

    /** What EXTENDED and LONG write is read as it was told. */
    private static void thereAndBack() {
        String name = Calls.text('n', 150) + "/" + Calls.text('m', 249);
        String link = "/" + Calls.text('l', 399);
        for (int family = 2; family < 4; family++) {
            TarForms x = new TarForms();
            x.number(0, 07777);
            x.number(1, 1L << 55);
            x.number(2, (1L << 55) - 1);
            x.number(3, -(1L << 40));
            x.number(4, family == 2 ? 123456780 : 0);
            Calls.linkEntry(x, 49, name, link);
            x.write(family, false);
            due("read", x.read(false), 1);
            long[] want = {49, 07777, 1L << 55, (1L << 55) - 1, 0, -(1L << 40), family == 2 ? 123456780 : 0};
            for (int what = 0; what < want.length; what++) {
                due(family + " there and back: " + what, x.found(0, what), want[what]);
            }
            due("NAME has", x.found(0, 9), 400);
            due("LINK has", x.found(0, 10), 400);
            due("UNSAFE", x.found(0, 11), 4);
            for (int k = 0; k < 400; k += 9) {
                due("letter of NAME " + k, x.letter(0, false, k), name.charAt(k));
                due("letter of LINK " + k, x.letter(0, true, k), link.charAt(k));
            }
        }
    }
}
