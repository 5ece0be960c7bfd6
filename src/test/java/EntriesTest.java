/** Promises 1 to 8: a new object, THE TAPE, THE DRAFT, ENTRIES and the best FAMILY. */
public final class EntriesTest {
    private static final Check CHECK = new Check();
    private static final long HUGE = 36028797018963968L;

    public static void main(String[] args) {
        newObject();
        feed();
        cut();
        name();
        number();
        entryRefused();
        entryTaken();
        entryOrder();
        clear();
        bestByName();
        bestBySplit();
        bestByNumbers();
        bestOfSeveral();
        CHECK.close();
    }

    private static void due(String call, long got, long want) {
        CHECK.due(call, got, want);
    }

    private static void newObject() {
        TarForms x = new TarForms();
        for (int what = 0; what <= 6; what++) {
            due("new: told(" + what + ")", x.told(what), 0);
        }
        due("new: best", x.best(), 0);
        due("new: found", x.found(0, 0), -9000000000000000000L);
        due("new: letter", x.letter(0, false, 0), -1);
        due("new: octet", x.octet(0), -1);
        due("new: entry", x.entry(48, 0, 0), -2);
        due("new: clear", x.clear(), 0);
        Calls.file(x, "a", 0, 0);
        checkFirstNumbers("new", x);
    }

    /** What THE DRAFT had, when it became an ENTRY, is seen by writing and reading it. */
    private static void checkFirstNumbers(String when, TarForms x) {
        x.write(2, false);
        x.read(false);
        int last = x.told(2) - 1;
        due(when + ": MODE", x.found(last, 1), 420);
        for (int what : new int[] {2, 3, 5, 6}) {
            due(when + ": number " + what, x.found(last, what), 0);
        }
        due(when + ": LINK", x.found(last, 10), 0);
    }

    private static void feed() {
        TarForms x = new TarForms();
        due("feed", x.feed(0x61626364, 0x65666768, 0x696A6B6C, 0x6D6E6F70), 16);
        due("feed: told(6)", x.told(6), 16);
        due("feed: name", x.name(false), 16);
        due("feed: entry", x.entry(48, 0, 0), 0);
        x.write(0, false);
        for (int i = 0; i < 16; i++) {
            due("feed: octet " + i, x.octet(i), 97 + i);
        }
        for (int i = 1; i <= 32; i++) {
            due("feed " + i, x.feed(-1, -1, -1, -1), 16 * i);
        }
        due("feed behind 512", x.feed(1, 1, 1, 1), -3);
        due("feed refused: told(6)", x.told(6), 512);
        due("feed: cut to 497", x.cut(497), 15);
        due("feed behind 497", x.feed(1, 1, 1, 1), -3);
        due("feed: cut to 496", x.cut(496), 1);
        due("feed behind 496", x.feed(1, 1, 1, 1), 512);
    }

    private static void cut() {
        TarForms x = new TarForms();
        due("cut(0) of none", x.cut(0), 0);
        due("cut(1) of none", x.cut(1), -1);
        x.feed(0x61626364, 0x65666768, 0, 0);
        due("cut(17)", x.cut(17), -1);
        due("cut(-1)", x.cut(-1), -1);
        due("cut(min)", x.cut(Integer.MIN_VALUE), -1);
        due("cut(max)", x.cut(Integer.MAX_VALUE), -1);
        due("cut refused: told(6)", x.told(6), 16);
        due("cut(16)", x.cut(16), 0);
        due("cut(3)", x.cut(3), 13);
        due("cut: told(6)", x.told(6), 3);
        due("cut: feed", x.feed(0x7A7A7A7A, 0, 0, 0), 19);
        due("cut(5)", x.cut(5), 14);
        x.name(false);
        x.entry(48, 0, 0);
        x.write(0, false);
        x.read(false);
        CHECK.due("cut: NAME", Calls.letters(x, 0, false), "abczz");
        due("cut(0)", x.cut(0), 0);
    }

    private static void name() {
        TarForms x = new TarForms();
        due("name of none", x.name(false), -2);
        due("link of none", x.name(true), -2);
        Calls.tape(x, "ab\0c");
        due("name with 0", x.name(false), -2);
        due("link with 0", x.name(true), -2);
        due("name refused: told(6)", x.told(6), 4);
        due("name: 0 at its end", x.cut(3), 1);
        due("name with 0 at its end", x.name(false), -2);
        x.cut(0);
        Calls.tape(x, "\0ab");
        due("name with 0 at its begin", x.name(false), -2);
        x.cut(0);
        Calls.tape(x, Calls.text('n', 401));
        due("name of 401", x.name(false), -2);
        due("link of 401", x.name(true), -2);
        due("name refused: told(6)", x.told(6), 401);
        due("name: no NAME came", x.entry(48, 0, 0), -2);
        x.cut(400);
        due("name of 400", x.name(false), 400);
        due("name: told(6)", x.told(6), 0);
        due("link of 400", Calls.link(x, Calls.text('l', 400)), 400);
        due("name again", Calls.name(x, "n"), 1);
        due("link again", Calls.link(x, "\377l"), 2);
        due("name: entry", x.entry(50, 0, 0), 0);
        x.write(0, false);
        x.read(false);
        CHECK.due("name: NAME", Calls.letters(x, 0, false), "n");
        CHECK.due("name: LINK", Calls.letters(x, 0, true), "\377l");
    }

    private static void number() {
        long[] least = {0, 0, 0, -(1L << 40), 0};
        long[] most = {4095, 1L << 55, 1L << 55, 1L << 50, 999999999};
        TarForms x = new TarForms();
        for (int what = 0; what < 5; what++) {
            due("number below " + what, x.number(what, least[what] - 1), -1);
            due("number above " + what, x.number(what, most[what] + 1), -1);
            due("number min " + what, x.number(what, Long.MIN_VALUE), -1);
            due("number max " + what, x.number(what, Long.MAX_VALUE), -1);
        }
        due("number(-1)", x.number(-1, 0), -1);
        due("number(5)", x.number(5, 0), -1);
        due("number(min)", x.number(Integer.MIN_VALUE, 0), -1);
        Calls.file(x, "refused", 0, 0);
        checkFirstNumbers("number refused", x);
        for (int what = 0; what < 5; what++) {
            due("number most " + what, x.number(what, most[what]), 1);
        }
        Calls.file(x, "most", 0, 0);
        for (int what = 0; what < 5; what++) {
            due("number least " + what, x.number(what, least[what]), 1);
        }
        Calls.file(x, "least", 0, 0);
        x.write(2, false);
        x.read(false);
        int[] told = {1, 2, 3, 5, 6};
        for (int what = 0; what < 5; what++) {
            due("most of " + what, x.found(1, told[what]), most[what]);
            due("least of " + what, x.found(2, told[what]), least[what]);
        }
    }

    private static void entryRefused() {
        TarForms x = new TarForms();
        due("entry: no NAME", x.entry(48, 0, 0), -2);
        due("folder: no NAME", x.entry(53, 0, 0), -2);
        Calls.link(x, "l");
        due("link: no NAME", x.entry(50, 0, 0), -2);
        Calls.name(x, "n");
        due("file with LINK", x.entry(48, 0, 0), -2);
        due("folder with LINK", x.entry(53, 0, 0), -2);
        for (int kind : new int[] {0, 47, 51, 52, 54, 75, 76, 103, 120, -1, 48 + 256}) {
            due("entry(" + kind + ")", x.entry(kind, 0, 0), -1);
        }
        due("link of 1 byte", x.entry(50, 1, 0), -1);
        due("link of -1 byte", x.entry(49, -1, 0), -1);
        due("folder of 1 byte", x.entry(53, 1, 0), -1);
        due("file of -1 byte", x.entry(48, -1, 0), -1);
        due("file of 4001 bytes", x.entry(48, 4001, 0), -1);
        due("file of most bytes", x.entry(48, Integer.MAX_VALUE, 0), -1);
        due("entry refused: told(5)", x.told(5), 0);
        due("link", x.entry(49, 0, 0), 0);
        Calls.name(x, "m");
        due("49 without LINK", x.entry(49, 0, 0), -2);
        due("50 without LINK", x.entry(50, 0, 0), -2);
        due("folder", x.entry(53, 0, 0), 1);
        due("entry: THE DRAFT is empty", x.entry(53, 0, 0), -2);
        due("told(5)", x.told(5), 2);
    }

    private static void entryTaken() {
        TarForms x = new TarForms();
        x.number(0, 1);
        x.number(1, 2);
        x.number(2, 3);
        x.number(3, 4);
        x.number(4, 5);
        due("link", Calls.linkEntry(x, 50, "n", "l"), 0);
        due("file", Calls.file(x, "f", 4000, -1), 1);
        checkFirstNumbers("behind an entry", x);
        due("MODE", x.found(0, 1), 1);
        due("UID", x.found(0, 2), 2);
        due("GID", x.found(0, 3), 3);
        due("TIME", x.found(0, 5), 4);
        due("NANOS", x.found(0, 6), 5);
        due("SIZE", x.found(1, 4), 4000);
    }

    private static void entryOrder() {
        TarForms x = new TarForms();
        for (int i = 0; i < 8; i++) {
            due("entry " + i, Calls.file(x, "f" + i, 0, 0), i);
        }
        due("BAD ahead of NOT and FULL", x.entry(47, 0, 0), -1);
        due("NOT ahead of FULL", x.entry(48, 0, 0), -2);
        x.number(0, 7);
        due("FULL", Calls.file(x, "g", 0, 0), -3);
        due("FULL: told(5)", x.told(5), 8);
        due("FULL: THE DRAFT stays", x.entry(48, 0, 0), -3);
        due("clear", x.clear(), 8);
        due("clear: THE DRAFT went", x.entry(48, 0, 0), -2);
    }

    private static void clear() {
        TarForms x = new TarForms();
        Calls.file(x, "a", 0, 0);
        Calls.file(x, "b", 0, 0);
        x.write(0, false);
        x.read(false);
        x.number(0, 0);
        x.number(1, 9);
        x.number(2, 9);
        x.number(3, 9);
        x.number(4, 9);
        Calls.name(x, "c");
        Calls.link(x, "d");
        Calls.tape(x, "tape");
        due("clear", x.clear(), 2);
        due("clear again", x.clear(), 0);
        due("clear: told(5)", x.told(5), 0);
        due("clear: THE TAPE stays", x.told(6), 4);
        due("clear: THE ARCHIVE stays", x.told(4), 2048);
        due("clear: what was FOUND stays", x.told(2), 2);
        due("clear: no NAME", x.entry(48, 0, 0), -2);
        x.name(false);
        due("clear: entry", x.entry(48, 0, 0), 0);
        due("clear: what ENTRIES had does not come back", x.entry(48, 0, 0), -2);
        checkFirstNumbers("clear", x);
        x.clear();
        Calls.link(x, "l");
        x.clear();
        due("clear: no LINK", Calls.file(x, "f", 0, 0), 0);
    }

    private static int bestOf(int kind, String name, String link) {
        TarForms x = new TarForms();
        Calls.name(x, name);
        if (!link.isEmpty()) {
            Calls.link(x, link);
        }
        due("bestOf: entry", x.entry(kind, 0, 0), 0);
        return x.best();
    }

    private static void bestByName() {
        due("file", bestOf(48, "a", ""), 0);
        due("folder", bestOf(53, "a", ""), 1);
        due("file with 47 at its end", bestOf(48, "a/", ""), 1);
        due("file with 47 inside", bestOf(48, "a/b", ""), 0);
        due("link with 47 at its end", bestOf(50, "a/", "b"), 0);
        due("hard link with 47 at its end", bestOf(49, "a/", "b"), 0);
        due("link to 47 at its end", bestOf(50, "a", "b/"), 0);
        due("NAME of 100", bestOf(48, Calls.text('n', 100), ""), 0);
        due("NAME of 101", bestOf(48, Calls.text('n', 101), ""), 2);
        due("LINK of 100", bestOf(49, "n", Calls.text('l', 100)), 0);
        due("LINK of 101", bestOf(49, "n", Calls.text('l', 101)), 2);
        due("LINK of 101 with 47", bestOf(50, "n", Calls.text('l', 50) + "/" + Calls.text('l', 50)), 2);
    }

    private static int bestOfSplit(int ahead, int behind) {
        return bestOf(48, Calls.text('a', ahead) + "/" + Calls.text('b', behind), "");
    }

    private static void bestBySplit() {
        due("155 and 100", bestOfSplit(155, 100), 1);
        due("156 and 100", bestOfSplit(156, 100), 2);
        due("155 and 101", bestOfSplit(155, 101), 2);
        due("1 and 100", bestOfSplit(1, 100), 1);
        due("0 and 100", bestOfSplit(0, 100), 2);
        due("100 and 1", bestOfSplit(100, 1), 1);
        due("100 and 0", bestOfSplit(100, 0), 2);
        due("155 and 1", bestOfSplit(155, 1), 1);
        due("156 and 1", bestOfSplit(156, 1), 2);
        due("one ahead that parts", bestOf(48, "a/" + Calls.text('b', 98) + "/", ""), 1);
        due("two 47s, the first parts", bestOf(48, Calls.text('a', 100) + "/" + Calls.text('b', 60) + "/c", ""), 1);
        due("47 behind 155", bestOf(48, Calls.text('a', 156) + "/" + Calls.text('b', 20) + "/c", ""), 2);
    }

    private static int bestOfNumber(int what, long v) {
        TarForms x = new TarForms();
        x.number(what, v);
        Calls.file(x, "a", 0, 0);
        return x.best();
    }

    private static void bestByNumbers() {
        due("MODE", bestOfNumber(0, 4095), 0);
        due("UID fits", bestOfNumber(1, 07777777), 0);
        due("UID fits not", bestOfNumber(1, 010000000), 2);
        due("GID fits", bestOfNumber(2, 07777777), 0);
        due("GID fits not", bestOfNumber(2, 010000000), 2);
        due("UID huge", bestOfNumber(1, HUGE), 2);
        due("TIME fits", bestOfNumber(3, 077777777777L), 0);
        due("TIME fits not", bestOfNumber(3, 0100000000000L), 2);
        due("TIME below 0", bestOfNumber(3, -1), 2);
        due("NANOS", bestOfNumber(4, 1), 2);
    }

    private static void bestOfSeveral() {
        TarForms x = new TarForms();
        Calls.file(x, "a", 0, 0);
        due("best of a file", x.best(), 0);
        Calls.name(x, "d");
        x.entry(53, 0, 0);
        due("best of a folder, too", x.best(), 1);
        x.number(4, 1);
        due("best: THE DRAFT does not count", x.best(), 1);
        Calls.file(x, "t", 0, 0);
        due("best with NANOS", x.best(), 2);
        x.clear();
        due("best of none", x.best(), 0);
    }
}
