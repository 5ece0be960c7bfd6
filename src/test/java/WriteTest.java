import java.math.BigDecimal;
import java.math.BigInteger;
import java.util.function.Supplier;

/** Promise 9: what is WRITTEN is compared byte by byte with heads made by the Java library. */
public final class WriteTest {
    private static final Check CHECK = new Check();
    private static final String[] MAGIC = {
        "\0\0\0\0\0\0\0\0", "ustar\0" + "00", "ustar\0" + "00", "ustar  \0"
    };
    private static final long HUGE = 1L << 55;

    public static void main(String[] args) {
        noEntries();
        plainInAllFamilies();
        dataAndFilling();
        links();
        splitNames();
        extendedNames();
        extendedNumbers();
        extendedTimes();
        longNames();
        longNumbers();
        refusals();
        behind();
        full();
        fullWithRowsAhead();
        CHECK.close();
    }

    // ---- what is due, told once more

    private static String octal(long v, int width) {
        return String.format("%0" + (width - 1) + "o", v) + "\0";
    }

    private static String by256(long v, int width) {
        BigInteger all = BigInteger.valueOf(v);
        if (v < 0) {
            all = all.add(BigInteger.ONE.shiftLeft(8 * (width - 1)));
        }
        StringBuilder out = new StringBuilder();
        for (int i = width - 2; i >= 0; i--) {
            out.append((char) all.shiftRight(8 * i).and(BigInteger.valueOf(255)).intValue());
        }
        return (v < 0 ? "\377" : "\200") + out;
    }

    private static String padded(String text, int width) {
        return text + "\0".repeat(width - text.length());
    }

    /** UID, GID and TIME come as they stand in their fields. */
    private static String head(String name, int mode, String numbers, int size, String kindAndLink, int family) {
        return headWithFront(name, mode, numbers, size, kindAndLink, family, "");
    }

    private static String headWithFront(
            String name, int mode, String numbers, int size, String kindAndLink, int family, String front) {
        String uidGid = numbers.substring(0, 16);
        String time = numbers.substring(16);
        String before = padded(name, 100) + octal(mode, 8) + uidGid + octal(size, 12) + time;
        String behind = padded(kindAndLink, 101) + padded(MAGIC[family], 88) + padded(front, 167);
        int sum = 8 * 32;
        for (char c : (before + behind).toCharArray()) {
            sum += c;
        }
        String whole = before + String.format("%06o", sum) + "\0 " + behind;
        CHECK.due("length of a due head", whole.length(), 512);
        return whole;
    }

    private static String numbers(long uid, long gid, long time) {
        return octal(uid, 8) + octal(gid, 8) + octal(time, 12);
    }

    private static String blocks(String data) {
        return data + "\0".repeat((512 - data.length() % 512) % 512);
    }

    private static String data(int size, int seed) {
        StringBuilder out = new StringBuilder();
        for (int i = 0; i < size; i++) {
            int h = (seed + i) * 0x9E3779B1;
            out.append((char) ((h ^ (h >>> 15)) & 255));
        }
        return blocks(out.toString());
    }

    private static final String END = "\0".repeat(1024);

    private static String rowsAhead(String rows) {
        return head("PaxHeader", 420, numbers(0, 0, 0), rows.length(), "x", 2) + blocks(rows);
    }

    private static String longAhead(int kind, String text) {
        String name = "././@LongLink";
        return head(name, 420, numbers(0, 0, 0), text.length() + 1, "" + (char) kind, 3) + blocks(text + "\0");
    }

    private static void compare(String what, Supplier<TarForms> maker, String due) {
        String got = Calls.archive(maker);
        CHECK.due(what + ": length", got.length(), due.length());
        int place = 0;
        while (place < got.length() && place < due.length() && got.charAt(place) == due.charAt(place)) {
            place++;
        }
        if (place < Math.max(got.length(), due.length())) {
            CHECK.due(what + ": first place that differs", place, -1);
            int end = place + 24;
            CHECK.due(what + " there", got.substring(place, Math.min(end, got.length())),
                due.substring(place, Math.min(end, due.length())));
        }
    }

    // ---- the tests

    private static void noEntries() {
        for (int family = 0; family < 4; family++) {
            int f = family;
            compare("nothing in " + f, () -> {
                TarForms x = new TarForms();
                CHECK.due("write", x.write(f, false), 1024);
                return x;
            }, END);
        }
    }

    private static void plainInAllFamilies() {
        for (int family = 0; family < 4; family++) {
            int f = family;
            compare("plain in " + f, () -> {
                TarForms x = new TarForms();
                x.number(0, 4095);
                x.number(1, 07777777);
                x.number(2, 8);
                x.number(3, 077777777777L);
                Calls.file(x, "a.txt", 0, 0);
                CHECK.due("write " + f, x.write(f, false), 1536);
                return x;
            }, head("a.txt", 4095, numbers(07777777, 8, 077777777777L), 0, "0", f) + END);
        }
    }

    private static void dataAndFilling() {
        int[] sizes = {1, 511, 512, 513, 4000};
        int[] seeds = {0, 7, -1, Integer.MAX_VALUE, Integer.MIN_VALUE};
        StringBuilder due = new StringBuilder();
        for (int i = 0; i < sizes.length; i++) {
            due.append(head("f" + i, 420, numbers(0, 0, 0), sizes[i], "0", 0)).append(data(sizes[i], seeds[i]));
        }
        compare("data", () -> {
            TarForms x = new TarForms();
            for (int i = 0; i < sizes.length; i++) {
                Calls.file(x, "f" + i, sizes[i], seeds[i]);
            }
            x.write(0, false);
            return x;
        }, due + END);
    }

    private static void links() {
        String name = Calls.text('n', 50) + "/" + Calls.text('n', 49);
        String link = Calls.text('l', 100);
        for (int family = 0; family < 4; family++) {
            int f = family;
            compare("links in " + f, () -> {
                TarForms x = new TarForms();
                Calls.linkEntry(x, 49, name, link);
                Calls.linkEntry(x, 50, "n\377", "\200");
                x.write(f, false);
                return x;
            }, head(name, 420, numbers(0, 0, 0), 0, "1" + link, f)
                + head("n\377", 420, numbers(0, 0, 0), 0, "2\200", f) + END);
        }
        for (int family = 1; family < 4; family++) {
            int f = family;
            compare("folder in " + f, () -> {
                TarForms x = new TarForms();
                Calls.name(x, "d/");
                x.entry(53, 0, 0);
                Calls.file(x, "e/", 0, 0);
                x.write(f, false);
                return x;
            }, head("d/", 420, numbers(0, 0, 0), 0, "5", f) + head("e/", 420, numbers(0, 0, 0), 0, "0", f) + END);
        }
    }

    private static void splitNames() {
        split("longest", Calls.text('a', 155), Calls.text('b', 100));
        split("shortest ahead", "a", Calls.text('b', 100));
        split("shortest behind", Calls.text('a', 100), "b");
        split("the last one", Calls.text('a', 50) + "/" + Calls.text('b', 60), Calls.text('c', 10));
        split("47 at the end", Calls.text('a', 99), "b/");
        split("47 at the end, none else behind", "a", Calls.text('b', 98) + "/");
        split("two 47s together", Calls.text('a', 100) + "/", "b");
        split("the last one is too far", Calls.text('a', 100), Calls.text('b', 60) + "/" + Calls.text('c', 9));
    }

    private static void split(String what, String front, String name) {
        for (int family = 1; family < 3; family++) {
            int f = family;
            compare("split in " + f + ", " + what, () -> {
                TarForms x = new TarForms();
                Calls.file(x, front + "/" + name, 0, 0);
                x.write(f, false);
                return x;
            }, headWithFront(name, 420, numbers(0, 0, 0), 0, "0", f, front) + END);
        }
    }

    private static void extendedNames() {
        String name = Calls.text('n', 101);
        String link = Calls.text('l', 60) + "/" + Calls.text('k', 339);
        compare("path", () -> {
            TarForms x = new TarForms();
            Calls.file(x, name, 3, 3);
            Calls.file(x, "plain", 0, 0);
            x.write(2, false);
            return x;
        }, rowsAhead(Raw.row("path", name)) + head(name.substring(1), 420, numbers(0, 0, 0), 3, "0", 2) + data(3, 3)
            + head("plain", 420, numbers(0, 0, 0), 0, "0", 2) + END);
        compare("linkpath", () -> {
            TarForms x = new TarForms();
            Calls.linkEntry(x, 50, "n", link);
            x.write(2, false);
            return x;
        }, rowsAhead(Raw.row("linkpath", link))
            + head("n", 420, numbers(0, 0, 0), 0, "2" + link.substring(0, 100), 2) + END);
    }

    private static void extendedNumbers() {
        String name = Calls.text('n', 400);
        String link = Calls.text('l', 400);
        String rows = Raw.row("path", name) + Raw.row("linkpath", link) + Raw.row("uid", "" + HUGE)
            + Raw.row("gid", "2097152") + Raw.row("mtime", "-1099511627775.000000001");
        compare("all rows", () -> {
            TarForms x = new TarForms();
            x.number(1, HUGE);
            x.number(2, 2097152);
            x.number(3, -(1L << 40));
            x.number(4, 999999999);
            Calls.linkEntry(x, 49, name, link);
            CHECK.due("write of all rows", x.write(2, false), 512 * 6);
            return x;
        }, rowsAhead(rows) + head(name.substring(300), 420, numbers(0, 0, 0), 0, "1" + link.substring(300), 2) + END);
        compare("gid alone", () -> {
            TarForms x = new TarForms();
            x.number(1, 2097151);
            x.number(2, 2097152);
            Calls.file(x, "n", 0, 0);
            x.write(2, false);
            return x;
        }, rowsAhead("15 gid=2097152\n") + head("n", 420, numbers(2097151, 0, 0), 0, "0", 2) + END);
    }

    private static void extendedTimes() {
        time(-2, 500000000, "-1.5");
        time(-1, 500000000, "-0.5");
        time(-1, 1, "-0.999999999");
        time(-1, 0, "-1");
        time(-1, 999999999, "-0.000000001");
        time(-10, 900000000, "-9.1");
        time(0, 1, "0.000000001");
        time(0, 100000000, "0.1");
        time(5, 120000000, "5.12");
        time(1600000000, 999999999, "1600000000.999999999");
        time(8589934592L, 0, "8589934592");
        time(1L << 50, 0, "1125899906842624");
        time(1L << 50, 10, "1125899906842624.00000001");
        time(-(1L << 40), 0, "-1099511627776");
    }

    private static void time(long time, int nanos, String value) {
        BigDecimal whole = BigDecimal.valueOf(nanos, 9).add(BigDecimal.valueOf(time));
        CHECK.due("the due text itself", whole.compareTo(new BigDecimal(value)), 0);
        long field = time < 0 || time >= 8589934592L ? 0 : time;
        compare("mtime " + value, () -> {
            TarForms x = new TarForms();
            x.number(3, time);
            x.number(4, nanos);
            Calls.file(x, "t", 0, 0);
            x.write(2, false);
            return x;
        }, rowsAhead(Raw.row("mtime", value)) + head("t", 420, numbers(0, 0, field), 0, "0", 2) + END);
    }

    private static void longNames() {
        String name = Calls.text('n', 60) + "/" + Calls.text('m', 40);
        String link = Calls.text('l', 400);
        compare("long NAME", () -> {
            TarForms x = new TarForms();
            Calls.file(x, name, 0, 0);
            x.write(3, false);
            return x;
        }, longAhead(76, name) + head(name.substring(0, 100), 420, numbers(0, 0, 0), 0, "0", 3) + END);
        compare("long LINK and NAME", () -> {
            TarForms x = new TarForms();
            Calls.linkEntry(x, 49, name, link);
            Calls.linkEntry(x, 50, "n", link);
            x.write(3, false);
            return x;
        }, longAhead(75, link) + longAhead(76, name)
            + head(name.substring(0, 100), 420, numbers(0, 0, 0), 0, "1" + link.substring(300), 3)
            + longAhead(75, link) + head("n", 420, numbers(0, 0, 0), 0, "2" + link.substring(300), 3) + END);
    }

    private static void longNumbers() {
        long[] times = {8589934592L, 1L << 50, -1, -256, -(1L << 40)};
        for (long time : times) {
            compare("TIME by 256: " + time, () -> {
                TarForms x = new TarForms();
                x.number(1, HUGE);
                x.number(2, 2097152);
                x.number(3, time);
                Calls.file(x, "n", 0, 0);
                x.write(3, false);
                return x;
            }, head("n", 420, by256(HUGE, 8) + by256(2097152, 8) + by256(time, 12), 0, "0", 3) + END);
        }
    }

    private static void refusals() {
        TarForms x = new TarForms();
        Calls.file(x, "a", 0, 0);
        CHECK.due("write", x.write(0, false), 1536);
        Calls.name(x, "d");
        x.entry(53, 0, 0);
        x.number(4, 1);
        Calls.file(x, "t", 0, 0);
        CHECK.due("write(-1)", x.write(-1, false), -1);
        CHECK.due("write(4)", x.write(4, true), -1);
        CHECK.due("write(0): the folder", x.write(0, false), -11);
        CHECK.due("write(1): NANOS", x.write(1, true), -12);
        CHECK.due("write(3): NANOS", x.write(3, false), -12);
        x.trim(1535);
        CHECK.due("no whole BLOCKS, behind", x.write(2, true), -2);
        CHECK.due("BAD ahead of it", x.write(4, true), -1);
        CHECK.due("an ENTRY that is not OF it ahead of it", x.write(3, true), -12);
        CHECK.due("refused: told(4)", x.told(4), 1535);
        CHECK.due("refused: octet", x.octet(0), 97);
        CHECK.due("no whole BLOCKS, in place", x.write(2, false), 3584);
    }

    private static void behind() {
        compare("behind", () -> {
            TarForms x = new TarForms();
            CHECK.due("write behind nothing", x.write(0, true), 1024);
            Calls.file(x, "a", 1, 1);
            CHECK.due("write behind", x.write(1, true), 3072);
            x.trim(2048);
            CHECK.due("write behind BLOCKS", x.write(0, true), 4096);
            return x;
        }, END + head("a", 420, numbers(0, 0, 0), 1, "0", 1) + data(1, 1)
            + head("a", 420, numbers(0, 0, 0), 1, "0", 0) + data(1, 1) + END);
    }

    private static void full() {
        TarForms x = new TarForms();
        for (int i = 0; i < 6; i++) {
            Calls.file(x, "f" + i, 4000, i);
        }
        CHECK.due("54 BLOCKS and the end", x.write(0, false), 56 * 512);
        Calls.file(x, "g", 3072, 0);
        CHECK.due("61 BLOCKS and the end", x.write(0, false), 63 * 512);
        Calls.name(x, "h");
        x.entry(53, 0, 0);
        CHECK.due("62 BLOCKS and the end", x.write(1, false), 32768);
        CHECK.due("not behind that", x.write(1, true), -3);
        CHECK.due("FULL: told(4)", x.told(4), 32768);
        x.clear();
        CHECK.due("not even an end", x.write(0, true), -3);
        x.trim(31 * 1024);
        CHECK.due("an end fits", x.write(0, true), 32768);

        TarForms y = new TarForms();
        for (int i = 0; i < 7; i++) {
            Calls.file(y, "f" + i, i < 6 ? 4000 : 3585, i);
        }
        CHECK.due("63 BLOCKS and the end", y.write(0, false), -3);
        y.clear();
        Calls.file(y, "a", 0, 0);
        y.write(0, false);
        y.clear();
        for (int i = 0; i < 8; i++) {
            Calls.file(y, "f" + i, 4000, i);
        }
        CHECK.due("FULL in place", y.write(0, false), -3);
        CHECK.due("FULL: all as it was", y.told(4), 1536);
        CHECK.due("FULL: bytes as they were", y.octet(0), 97);
    }

    /** Fills THE ARCHIVE up to so many BLOCKS, then writes one link behind. */
    private static int writeLinkBehind(int blocks, int family, int nameLetters, int linkLetters) {
        TarForms x = new TarForms();
        while (x.told(4) < blocks * 512) {
            x.write(0, true);
        }
        x.trim(blocks * 512);
        Calls.linkEntry(x, 50, Calls.text('n', nameLetters), Calls.text('l', linkLetters));
        int answer = x.write(family, true);
        CHECK.due("told(4)", x.told(4), answer < 0 ? blocks * 512 : answer);
        return answer;
    }

    private static void dueBlocks(int needed, int family, int nameLetters, int linkLetters) {
        String what = "family " + family + ", names of " + nameLetters + " and " + linkLetters;
        int least = 64 - needed;
        CHECK.due(what + " fit", writeLinkBehind(least, family, nameLetters, linkLetters), 32768);
        CHECK.due(what + " fit not", writeLinkBehind(least + 1, family, nameLetters, linkLetters), -3);
    }

    private static void fullWithRowsAhead() {
        dueBlocks(3, 2, 100, 100);
        dueBlocks(3, 3, 100, 100);
        dueBlocks(5, 2, 101, 100);
        dueBlocks(5, 2, 101, 101);
        dueBlocks(6, 2, 400, 400);
        dueBlocks(5, 3, 101, 100);
        dueBlocks(5, 3, 100, 101);
        dueBlocks(7, 3, 400, 400);
    }
}
