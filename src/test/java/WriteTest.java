import java.math.BigDecimal;
import java.util.function.Supplier;

/** Promise 9: what is WRITTEN is compared byte by byte with heads made by the Java library. */
public final class WriteTest {
    private static final Check CHECK = new Check();
    private static final long HUGE = 1L << 55;

    public static void main(String[] args) {
        noEntries();
        plainInAllFamilies();
        dataAndFilling();
        links();
        splitNames();
        extendedNames();
        extendedNumbers();
        extendedTimes();
        longNames();
        longNumbers();
        refusals();
        behind();
        full();
        fullWithRowsAhead();
        CHECK.close();
    }

    private static void compare(String what, Supplier<TarForms> maker, String due) {
        Due.compare(CHECK, what, maker, due);
    }

    private static void noEntries() {
        for (int family = 0; family < 4; family++) {
            int f = family;
            compare("nothing in " + f, () -> {
                TarForms x = new TarForms();
                CHECK.due("write", x.write(f, false), 1024);
                return x;
            }, Due.END);
        }
    }

    private static void plainInAllFamilies() {
        for (int family = 0; family < 4; family++) {
            int f = family;
            compare("plain in " + f, () -> {
                TarForms x = new TarForms();
                x.number(0, 4095);
                x.number(1, 07777777);
                x.number(2, 8);
                x.number(3, 077777777777L);
                Calls.file(x, "a.txt", 0, 0);
                CHECK.due("write " + f, x.write(f, false), 1536);
                return x;
            }, Due.head("a.txt", 4095, Due.numbers(07777777, 8, 077777777777L), 0, "0", f) + Due.END);
        }
    }

    private static void dataAndFilling() {
        int[] sizes = {1, 511, 512, 513, 4000};
        int[] seeds = {0, 7, -1, Integer.MAX_VALUE, Integer.MIN_VALUE};
        StringBuilder due = new StringBuilder();
        for (int i = 0; i < sizes.length; i++) {
            due.append(Due.head("f" + i, 420, Due.ZEROS, sizes[i], "0", 0)).append(Due.data(sizes[i], seeds[i]));
        }
        compare("data", () -> {
            TarForms x = new TarForms();
            for (int i = 0; i < sizes.length; i++) {
                Calls.file(x, "f" + i, sizes[i], seeds[i]);
            }
            x.write(0, false);
            return x;
        }, due + Due.END);
    }

    private static void links() {
        String name = Calls.text('n', 50) + "/" + Calls.text('n', 49);
        String link = Calls.text('l', 100);
        for (int family = 0; family < 4; family++) {
            int f = family;
            compare("links in " + f, () -> {
                TarForms x = new TarForms();
                Calls.linkEntry(x, 49, name, link);
                Calls.linkEntry(x, 50, "n\377", "\200");
                x.write(f, false);
                return x;
            }, Due.head(name, 420, Due.ZEROS, 0, "1" + link, f)
                + Due.head("n\377", 420, Due.ZEROS, 0, "2\200", f) + Due.END);
        }
        for (int family = 1; family < 4; family++) {
            int f = family;
            compare("folder in " + f, () -> {
                TarForms x = new TarForms();
                Calls.name(x, "d/");
                x.entry(53, 0, 0);
                Calls.file(x, "e/", 0, 0);
                x.write(f, false);
                return x;
            }, Due.head("d/", 420, Due.ZEROS, 0, "5", f) + Due.head("e/", 420, Due.ZEROS, 0, "0", f) + Due.END);
        }
    }

    private static void splitNames() {
        split("longest", Calls.text('a', 155), Calls.text('b', 100));
        split("shortest ahead", "a", Calls.text('b', 100));
        split("shortest behind", Calls.text('a', 100), "b");
        split("the last one", Calls.text('a', 50) + "/" + Calls.text('b', 60), Calls.text('c', 10));
        split("47 at the end", Calls.text('a', 99), "b/");
        split("47 at the end, none else behind", "a", Calls.text('b', 98) + "/");
        split("two 47s together", Calls.text('a', 100) + "/", "b");
        split("the last one is too far", Calls.text('a', 100), Calls.text('b', 60) + "/" + Calls.text('c', 9));
    }

    private static void split(String what, String front, String name) {
        for (int family = 1; family < 3; family++) {
            int f = family;
            compare("split in " + f + ", " + what, () -> {
                TarForms x = new TarForms();
                Calls.file(x, front + "/" + name, 0, 0);
                x.write(f, false);
                return x;
            }, Due.headWithFront(name, 420, Due.ZEROS, 0, "0", f, front) + Due.END);
        }
    }

    private static void extendedNames() {
        String name = Calls.text('n', 101);
        String link = Calls.text('l', 60) + "/" + Calls.text('k', 339);
        compare("path", () -> {
            TarForms x = new TarForms();
            Calls.file(x, name, 3, 3);
            Calls.file(x, "plain", 0, 0);
            x.write(2, false);
            return x;
        }, Due.rowsAhead(Raw.row("path", name))
            + Due.head(name.substring(1), 420, Due.ZEROS, 3, "0", 2) + Due.data(3, 3)
            + Due.head("plain", 420, Due.ZEROS, 0, "0", 2) + Due.END);
        compare("linkpath", () -> {
            TarForms x = new TarForms();
            Calls.linkEntry(x, 50, "n", link);
            x.write(2, false);
            return x;
        }, Due.rowsAhead(Raw.row("linkpath", link))
            + Due.head("n", 420, Due.ZEROS, 0, "2" + link.substring(0, 100), 2) + Due.END);
    }

    private static void extendedNumbers() {
        String name = Calls.text('n', 400);
        String link = Calls.text('l', 400);
        String rows = Raw.row("path", name) + Raw.row("linkpath", link) + Raw.row("uid", "" + HUGE)
            + Raw.row("gid", "2097152") + Raw.row("mtime", "-1099511627775.000000001");
        compare("all rows", () -> {
            TarForms x = new TarForms();
            x.number(1, HUGE);
            x.number(2, 2097152);
            x.number(3, -(1L << 40));
            x.number(4, 999999999);
            Calls.linkEntry(x, 49, name, link);
            CHECK.due("write of all rows", x.write(2, false), 512 * 6);
            return x;
        }, Due.rowsAhead(rows)
            + Due.head(name.substring(300), 420, Due.ZEROS, 0, "1" + link.substring(300), 2) + Due.END);
        compare("gid alone", () -> {
            TarForms x = new TarForms();
            x.number(1, 2097151);
            x.number(2, 2097152);
            Calls.file(x, "n", 0, 0);
            x.write(2, false);
            return x;
        }, Due.rowsAhead("15 gid=2097152\n") + Due.head("n", 420, Due.numbers(2097151, 0, 0), 0, "0", 2) + Due.END);
    }

    private static void extendedTimes() {
        time(-2, 500000000, "-1.5");
        time(-1, 500000000, "-0.5");
        time(-1, 1, "-0.999999999");
        time(-1, 0, "-1");
        time(-1, 999999999, "-0.000000001");
        time(-10, 900000000, "-9.1");
        time(0, 1, "0.000000001");
        time(0, 100000000, "0.1");
        time(5, 120000000, "5.12");
        time(1600000000, 999999999, "1600000000.999999999");
        time(8589934592L, 0, "8589934592");
        time(1L << 50, 0, "1125899906842624");
        time(1L << 50, 10, "1125899906842624.00000001");
        time(-(1L << 40), 0, "-1099511627776");
    }

    private static void time(long time, int nanos, String value) {
        BigDecimal whole = BigDecimal.valueOf(nanos, 9).add(BigDecimal.valueOf(time));
        CHECK.due("the due text itself", whole.compareTo(new BigDecimal(value)), 0);
        long field = time < 0 || time >= 8589934592L ? 0 : time;
        compare("mtime " + value, () -> {
            TarForms x = new TarForms();
            x.number(3, time);
            x.number(4, nanos);
            Calls.file(x, "t", 0, 0);
            x.write(2, false);
            return x;
        }, Due.rowsAhead(Raw.row("mtime", value)) + Due.head("t", 420, Due.numbers(0, 0, field), 0, "0", 2) + Due.END);
    }

    private static void longNames() {
        String name = Calls.text('n', 60) + "/" + Calls.text('m', 40);
        String link = Calls.text('l', 400);
        compare("long NAME", () -> {
            TarForms x = new TarForms();
            Calls.file(x, name, 0, 0);
            x.write(3, false);
            return x;
        }, Due.longAhead(76, name) + Due.head(name.substring(0, 100), 420, Due.ZEROS, 0, "0", 3) + Due.END);
        compare("long LINK and NAME", () -> {
            TarForms x = new TarForms();
            Calls.linkEntry(x, 49, name, link);
            Calls.linkEntry(x, 50, "n", link);
            x.write(3, false);
            return x;
        }, Due.longAhead(75, link) + Due.longAhead(76, name)
            + Due.head(name.substring(0, 100), 420, Due.ZEROS, 0, "1" + link.substring(300), 3)
            + Due.longAhead(75, link) + Due.head("n", 420, Due.ZEROS, 0, "2" + link.substring(300), 3) + Due.END);
    }

    private static String by256(long uid, long gid, long time) {
        return Due.by256(uid, 8) + Due.by256(gid, 8) + Due.by256(time, 12);
    }

    private static void longNumbers() {
        long[] times = {8589934592L, 1L << 50, -1, -256, -(1L << 40)};
        for (long time : times) {
            compare("TIME by 256: " + time, () -> {
                TarForms x = new TarForms();
                x.number(1, HUGE);
                x.number(2, 2097152);
                x.number(3, time);
                Calls.file(x, "n", 0, 0);
                x.write(3, false);
                return x;
            }, Due.head("n", 420, by256(HUGE, 2097152, time), 0, "0", 3) + Due.END);
        }
    }

    private static void refusals() {
        TarForms x = new TarForms();
        Calls.file(x, "a", 0, 0);
        CHECK.due("write", x.write(0, false), 1536);
        Calls.name(x, "d");
        x.entry(53, 0, 0);
        x.number(4, 1);
        Calls.file(x, "t", 0, 0);
        CHECK.due("write(-1)", x.write(-1, false), -1);
        CHECK.due("write(4)", x.write(4, true), -1);
        CHECK.due("write(0): the folder", x.write(0, false), -11);
        CHECK.due("write(1): NANOS", x.write(1, true), -12);
        CHECK.due("write(3): NANOS", x.write(3, false), -12);
        x.trim(1535);
        CHECK.due("no whole BLOCKS, behind", x.write(2, true), -2);
        CHECK.due("BAD ahead of it", x.write(4, true), -1);
        CHECK.due("an ENTRY that is not OF it ahead of it", x.write(3, true), -12);
        CHECK.due("refused: told(4)", x.told(4), 1535);
        CHECK.due("refused: octet", x.octet(0), 97);
        CHECK.due("no whole BLOCKS, in place", x.write(2, false), 3584);
    }

    private static void behind() {
        compare("behind", () -> {
            TarForms x = new TarForms();
            CHECK.due("write behind nothing", x.write(0, true), 1024);
            Calls.file(x, "a", 1, 1);
            CHECK.due("write behind", x.write(1, true), 3072);
            x.trim(2048);
            CHECK.due("write behind BLOCKS", x.write(0, true), 4096);
            return x;
        }, Due.END + Due.head("a", 420, Due.ZEROS, 1, "0", 1) + Due.data(1, 1)
            + Due.head("a", 420, Due.ZEROS, 1, "0", 0) + Due.data(1, 1) + Due.END);
    }

    private static void full() {
        TarForms x = new TarForms();
        for (int i = 0; i < 6; i++) {
            Calls.file(x, "f" + i, 4000, i);
        }
        CHECK.due("54 BLOCKS and the end", x.write(0, false), 56 * 512);
        Calls.file(x, "g", 3072, 0);
        CHECK.due("61 BLOCKS and the end", x.write(0, false), 63 * 512);
        Calls.name(x, "h");
        x.entry(53, 0, 0);
        CHECK.due("62 BLOCKS and the end", x.write(1, false), 32768);
        CHECK.due("not behind that", x.write(1, true), -3);
        CHECK.due("FULL: told(4)", x.told(4), 32768);
        x.clear();
        CHECK.due("not even an end", x.write(0, true), -3);
        x.trim(31 * 1024);
        CHECK.due("an end fits", x.write(0, true), 32768);

        TarForms y = new TarForms();
        for (int i = 0; i < 7; i++) {
            Calls.file(y, "f" + i, i < 6 ? 4000 : 3585, i);
        }
        CHECK.due("63 BLOCKS and the end", y.write(0, false), -3);
        y.clear();
        Calls.file(y, "a", 0, 0);
        y.write(0, false);
        y.clear();
        for (int i = 0; i < 8; i++) {
            Calls.file(y, "f" + i, 4000, i);
        }
        CHECK.due("FULL in place", y.write(0, false), -3);
        CHECK.due("FULL: all as it was", y.told(4), 1536);
        CHECK.due("FULL: bytes as they were", y.octet(0), 97);
    }

    /** Fills THE ARCHIVE up to so many BLOCKS, then writes one link behind. */
    private static int writeLinkBehind(int blocks, int family, int nameLetters, int linkLetters) {
        TarForms x = new TarForms();
        while (x.told(4) < blocks * 512) {
            x.write(0, true);
        }
        x.trim(blocks * 512);
        Calls.linkEntry(x, 50, Calls.text('n', nameLetters), Calls.text('l', linkLetters));
        int answer = x.write(family, true);
        CHECK.due("told(4)", x.told(4), answer < 0 ? blocks * 512 : answer);
        return answer;
    }

    private static void dueBlocks(int needed, int family, int nameLetters, int linkLetters) {
        String what = "family " + family + ", names of " + nameLetters + " and " + linkLetters;
        int least = 64 - needed;
        CHECK.due(what + " fit", writeLinkBehind(least, family, nameLetters, linkLetters), 32768);
        CHECK.due(what + " fit not", writeLinkBehind(least + 1, family, nameLetters, linkLetters), -3);
    }

    private static void fullWithRowsAhead() {
        dueBlocks(3, 2, 100, 100);
        dueBlocks(3, 3, 100, 100);
        dueBlocks(5, 2, 101, 100);
        dueBlocks(5, 2, 101, 101);
        dueBlocks(6, 2, 400, 400);
        dueBlocks(5, 3, 101, 100);
        dueBlocks(5, 3, 100, 101);
        dueBlocks(7, 3, 400, 400);
    }
}
