/** Promises 14 and 15: reading, FAULTS and their places, ends, and told(). */
public final class ReadTest {
    private static final Check CHECK = new Check();
    private static final int FILE = 48, ROWS = 120, ROWS_FOR_ALL = 103, LONG_LINK = 75, LONG_NAME = 76;

    public static void main(String[] args) {
        told();
        left();
        wholeOfHeads();
        zeroBlocks();
        endsWithOn();
        sums();
        numbers();
        numbersBy256();
        kinds();
        dataLeft();
        rowForms();
        rowNames();
        rowNumbers();
        rowTimes();
        longNames();
        atMostForty();
        noName();
        toldAhead();
        orderOfFaults();
        CHECK.close();
    }

    private static void due(String what, TarForms x, boolean on, int found, int fault, int place) {
        CHECK.dueRead(what, x, on, found, fault, place);
    }

    private static void due(String what, Raw raw, int found, int fault, int place) {
        CHECK.dueRead(what, raw.load(), false, found, fault, place);
    }

    private static Raw file() {
        return Raw.begin().head(FILE, "a");
    }

    private static void told() {
        TarForms x = file().end().load();
        for (int what = 0; what < 4; what++) {
            CHECK.due("ahead of read: told(" + what + ")", x.told(what), 0);
        }
        CHECK.due("told(4)", x.told(4), 1536);
        CHECK.due("told(-1)", x.told(-1), -1);
        CHECK.due("told(7)", x.told(7), -1);
        CHECK.due("told(min)", x.told(Integer.MIN_VALUE), -1);
        due("a file", x, false, 1, 0, 0);
        CHECK.due("ends", x.told(3), 1);
        Calls.file(x, "b", 0, 0);
        Calls.tape(x, "abc");
        CHECK.due("told(5)", x.told(5), 1);
        CHECK.due("told(6)", x.told(6), 3);
        x.trim(10);
        CHECK.due("behind a trim: told(2)", x.told(2), 1);
        CHECK.due("behind a trim: told(4)", x.told(4), 10);
        due("ten bytes", x, false, 0, 2, 0);
        CHECK.due("what was FOUND is gone", x.found(0, 0), -9000000000000000000L);
        CHECK.due("ends are gone", x.told(3), 0);
        x.write(0, false);
        CHECK.due("a FAULT stays till the next read", x.told(0), 2);
        due("another one", x, false, 1, 0, 0);
    }

    private static void left() {
        due("nothing", Raw.begin(), 0, 1, 0);
        due("one byte", Raw.begin().zeros(1), 0, 2, 0);
        due("511 bytes", Raw.begin().zeros(511), 0, 2, 0);
        due("no end", file(), 1, 1, 512);
        due("511 bytes of an end", file().zeros(511), 1, 2, 512);
        due("a byte behind", file().zeros(1), 1, 2, 512);
        due("no byte left, with ON", file().load(), true, 1, 1, 512);
    }

    private static void wholeOfHeads() {
        TarForms x = new TarForms();
        for (int i = 0; i < 32; i++) {
            x.write(0, true);
        }
        for (int p = 0; p < 32768; p += 512) {
            x.poke(p + 156, ROWS_FOR_ALL);
            x.sum(p);
        }
        due("64 HEADS and no end", x, false, 0, 1, 32768);
    }

    private static void zeroBlocks() {
        due("one BLOCK of 0s", file().zeros(512), 1, 3, 512);
        due("one and a half", file().zeros(1023), 1, 3, 512);
        due("one, then a HEAD", file().zeros(512).head(FILE, "b").end(), 1, 3, 512);
        TarForms x = Raw.begin().zeros(1024).load();
        x.poke(1023, 1);
        due("the last byte is none", x, false, 0, 3, 0);
        x.poke(1023, 1);
        x.poke(511, 1);
        due("the last byte of the first is none", x, false, 0, 4, 148);
        due("the end alone", Raw.begin().end(), 0, 0, 0);
    }

    private static void endsWithOn() {
        TarForms x = file().end().head(FILE, "b").end().load();
        due("two, without ON", x, false, 1, 0, 0);
        CHECK.due("ends without ON", x.told(3), 1);
        due("two, with ON", x, true, 2, 0, 0);
        CHECK.due("ends with ON", x.told(3), 2);
        CHECK.due("place of the second", x.found(1, 7), 1536);
        x = file().end().zeros(512).head(FILE, "b").end().load();
        due("three BLOCKS between", x, true, 2, 0, 0);
        CHECK.due("ends with three BLOCKS", x.told(3), 2);
        x = file().end().end().end().zeros(511).load();
        due("half a BLOCK behind", x, true, 1, 0, 0);
        CHECK.due("many 0s are one end", x.told(3), 1);
        x.poke(512 + 3072 + 510, 7);
        due("half a BLOCK with something in it", x, true, 1, 0, 0);
        x = file().end().head(FILE, "b").load();
        due("the second has no end", x, true, 2, 1, 2048);
        CHECK.due("ends ahead of a FAULT", x.told(3), 1);
        due("the second without ON", x, false, 1, 0, 0);
        x = file().end().head(FILE, "b").unsummed(0, "c").end().load();
        due("FAULT in the second", x, true, 1, 4, 1536 + 148);
        x = Raw.begin().head(ROWS_FOR_ALL, "g", Raw.row("uid", "7")).end().head(FILE, "b").end().load();
        due("for all that come", x, true, 1, 0, 0);
        CHECK.due("UID behind an end", x.found(0, 2), 7);
    }

    private static void sumField(String what, String field, boolean right) {
        due("SUM " + what, file().unsummed(148, field).end(), right ? 1 : 0, right ? 0 : 4, right ? 0 : 148);
    }

    private static void sums() {
        String sum = Integer.toOctalString(file().sum());
        sumField("of three digits and 0s", sum + "\0\0\0\0\0", true);
        sumField("behind spaces", "     " + sum, true);
        sumField("of eight digits", "00000" + sum, true);
        sumField("then space and 0", sum + " \0 \0 ", true);
        sumField("with a space inside", sum.charAt(0) + " " + sum.substring(1) + "    ", false);
        sumField("behind a 0", "\0" + sum + "    ", false);
        sumField("with an 8", "8" + sum + "    ", false);
        sumField("with a letter behind", sum + "    x", false);
        sumField("by 256", "\200\0\0\0\0\0\1\1", false);
        sumField("one more", Integer.toOctalString(file().sum() + 1) + "     ", false);
        sumField("one less", Integer.toOctalString(file().sum() - 1) + "     ", false);
        sumField("of no digits", "        ", false);
        Raw high = Raw.begin().head(FILE, "aaaa\377");
        String signed = String.format("%06o", high.sum(true)) + "\0 ";
        CHECK.isTrue("the sums differ", high.sum(true) != high.sum(false));
        due("SUM of bytes below 0", Raw.begin().head(FILE, "aaaa\377").unsummed(148, signed).end(), 1, 0, 0);
        due("SUM of bytes above 127", Raw.begin().head(FILE, "aaaa\377").end(), 1, 0, 0);
        due("SUM of the second HEAD", file().head(FILE, "b").unsummed(0, "c").end(), 1, 4, 512 + 148);
    }

    private static void field(String what, int at, String text, long value) {
        int told = at == 100 ? 1 : at == 108 ? 2 : at == 116 ? 3 : at == 124 ? 4 : 5;
        TarForms x = file().put(at, text).end().load();
        due(what + " at " + at, x, false, 1, 0, 0);
        CHECK.due(what + " at " + at + ": value", x.found(0, told), value);
    }

    private static void wrongField(String what, int at, String text) {
        due(what + " at " + at, file().put(at, text).end(), 0, 5, at);
    }

    private static void numbers() {
        for (int at : new int[] {100, 108, 116, 136}) {
            int width = at == 136 ? 12 : 8;
            field("none", at, "", 0);
            field("spaces", at, Calls.text(' ', width), 0);
            field("spaces up to the next field and on", at, Calls.text(' ', width + 1), 0);
            field("octal", at, "0000017\0", 15);
            field("spaces ahead", at, "   17 \0 ", 15);
            field("all digits", at, Calls.text('7', width), (1L << 3 * width) - 1);
            field("spaces, then 0s", at, " \0 \0", 0);
            wrongField("8", at, "8");
            wrongField("digit behind 0", at, "1\0" + "1");
            wrongField("digit behind space", at, " 1 1");
            wrongField("digit behind 0 alone", at, " \0" + "1");
            wrongField("minus", at, "-1");
            wrongField("letter at its end", at, Calls.text('1', width - 1) + "x");
            wrongField("slash", at, "/");
            wrongField("first byte 129", at, "\201\0\0\0\0\0\0\1");
            wrongField("first byte 254", at, "\376\377\377\377\377\377\377\377");
        }
        wrongField("SIZE 8", 124, "8");
        field("SIZE of spaces", 124, "            ", 0);
        due("of another HEAD", file().head(ROWS, "x").put(136, "x").end(), 1, 5, 512 + 136);
        due("GID ahead of TIME", file().put(136, "x").put(116, "x").end(), 0, 5, 116);
        due("MODE ahead of all", file().put(108, "x").put(124, "x").put(100, "x").end(), 0, 5, 100);
        due("SIZE ahead of TIME", file().put(136, "x").put(124, "\377" + Calls.text('\377', 11)).end(), 0, 5, 124);
    }

    private static void numbersBy256() {
        String ones = Calls.text('\377', 7);
        String zeros = Calls.text('\0', 7);
        for (int at : new int[] {100, 108, 116}) {
            field("by 256: 1", at, "\200\0\0\0\0\0\0\1", 1);
            field("by 256: most", at, "\200" + ones, (1L << 56) - 1);
            field("by 256: -1", at, "\377" + ones, -1);
            field("by 256: least", at, "\377" + zeros, -(1L << 56));
            field("by 256: 0", at, "\200" + zeros, 0);
        }
        field("by 256: 1", 136, "\200\0\0\0" + zeros + "\1", 1);
        field("by 256: most", 136, "\200\0\0\0\177" + ones, Long.MAX_VALUE);
        field("by 256: -1", 136, "\377\377\377\377\377" + ones, -1);
        field("by 256: least", 136, "\377\377\377\377\200" + zeros, Long.MIN_VALUE);
        wrongField("2^63", 136, "\200\0\0\0\200" + zeros);
        wrongField("2^64", 136, "\200\0\0\1\0" + zeros);
        wrongField("2^80", 136, "\200\1\0\0\0" + zeros);
        wrongField("- 2^63 - 1", 136, "\377\377\377\377\177" + ones);
        wrongField("far below", 136, "\377\377\377\376\377" + ones);
        wrongField("farther below", 136, "\377\0\377\377\377" + ones);
        wrongField("SIZE below 0", 124, "\377\377\377\377\377" + ones);
        wrongField("SIZE of 2^63", 124, "\200\0\0\0\200" + zeros);
        field("SIZE by 256", 124, "\200\0\0\0\0" + zeros, 0);
    }

    private static void kinds() {
        String known = "\0" + "0125xgKL";
        for (int kind = 0; kind < 256; kind++) {
            boolean isKnown = known.indexOf(kind) >= 0;
            TarForms x = file().put(156, "" + (char) kind).end().load();
            x.read(false);
            CHECK.due("KIND " + kind + " is refused", x.told(0) == 6 ? 1 : 0, isKnown ? 0 : 1);
            if (!isKnown) {
                CHECK.due("KIND " + kind + ": place", x.told(1), 156);
            }
        }
        TarForms x = Raw.begin().head(0, "a").end().load();
        due("KIND 0", x, false, 1, 0, 0);
        CHECK.due("KIND 0 counts as 48", x.found(0, 0), 48);
        due("KIND of the second", file().head('7', "b").end(), 1, 6, 512 + 156);
    }

    private static void dataLeft() {
        due("DATA of 1", Raw.begin().head(FILE, "a", "x").end(), 1, 0, 0);
        due("DATA not filled", Raw.begin().head(FILE, "a", "x").trim(1023), 0, 7, 0);
        due("DATA filled", Raw.begin().head(FILE, "a", "x"), 1, 1, 1024);
        due("DATA of 512", Raw.begin().head(FILE, "a", Calls.text('\0', 512)).end(), 1, 0, 0);
        due("DATA of 513", file().put(124, "1001").end(), 1, 1, 1536);
        due("DATA of 1025", file().put(124, "2001").end(), 0, 7, 0);
        due("DATA of 8^12", file().put(124, "777777777777").end(), 0, 7, 0);
        due("DATA of 2^63", file().put(124, "\200\0\0\0\177\377\377\377\377\377\377\377").end(), 0, 7, 0);
        due("DATA of 2^31", file().put(124, "20000000000").end(), 0, 7, 0);
        due("DATA of 2^32", file().put(124, "40000000000").end(), 0, 7, 0);
        due("DATA of a folder", Raw.begin().head('5', "a", "x").end(), 1, 0, 0);
        due("DATA of a link", Raw.begin().head('2', "a", "x").trim(512), 0, 7, 0);
        due("DATA of ROWS", file().head(ROWS, "x", Raw.row("uid", "1")).trim(1024), 1, 7, 512);
        Raw smaller = Raw.begin().head(ROWS, "x", Raw.row("size", "1")).head(FILE, "a").put(124, "777777").zeros(512);
        due("SIZE of a ROW, smaller", smaller.end(), 1, 0, 0);
        Raw greater = Raw.begin().head(ROWS, "x", Raw.row("size", "1025")).head(FILE, "a");
        due("SIZE of a ROW, greater", greater.end(), 0, 7, 1024);
        Raw most = Raw.begin().head(ROWS, "x", Raw.row("size", "999999999999999999")).head(FILE, "a");
        due("SIZE of a ROW, greatest", most.end(), 0, 7, 1024);
        Raw all = Raw.begin().head(ROWS_FOR_ALL, "g", Raw.row("size", "513")).head(ROWS, "x").head(FILE, "a");
        all.zeros(1024);
        due("SIZE of a ROW for all is of ENTRIES alone", all.end(), 1, 0, 0);
    }

    private static Raw rows(String rows) {
        return Raw.begin().head(ROWS, "x", rows).head(FILE, "a").end();
    }

    private static void wrongRow(String what, String rows, int place) {
        due("ROW " + what, rows(rows), 0, 8, 512 + place);
        due("ROW for all " + what, Raw.begin().head(ROWS_FOR_ALL, "g", rows).end(), 0, 8, 512 + place);
    }

    private static void rowForms() {
        due("ROWS: none", rows(""), 1, 0, 0);
        due("ROWS: others", rows("6 a=b\n5 a=\n5 =b\n4 =\n"), 1, 0, 0);
        due("ROW with 0s in front", rows("0009 a=b\n08 a=bc\n"), 1, 0, 0);
        due("ROW with more 61s and 10s", rows("10 a==\n=b\n"), 1, 0, 0);
        wrongRow("without digits", " a=b\n", 0);
        wrongRow("with a letter first", "x6 a=b\n", 0);
        wrongRow("with five digits", "00010 a=b\n", 0);
        wrongRow("with 58 as a digit", "0: a=bcde\n", 0);
        wrongRow("with 47 as a digit", "1/ a=bcd\n", 0);
        due("ROW with its 10 behind DATA", Raw.begin().head(ROWS, "x", "7 a=b \n").put(124, "6").end(), 0, 8, 512);
        wrongRow("without 32", "6=a=b\n", 0);
        wrongRow("of digits alone", "12", 0);
        wrongRow("of digits and 32 alone", "3 ", 0);
        wrongRow("of length 0", "0 a=b\n", 0);
        wrongRow("of length 0, behind another", "6 a=b\n0 a=b\n", 6);
        wrongRow("of length 1", "1 a=b\n", 0);
        wrongRow("of length 2", "2 a=b\n", 0);
        wrongRow("too short", "5 a=b\n", 0);
        wrongRow("too long", "7 a=b\n", 0);
        wrongRow("longer than DATA", "9999 a=b\n", 0);
        wrongRow("too long, with a 10 there", "7 a=b\n\n8 a=b\n", 7);
        wrongRow("without 61", "6 a b\n", 0);
        wrongRow("without all", "3 \n", 0);
        wrongRow("that is the second", "6 a=b\nx", 6);
        wrongRow("of a 0 behind", "6 a=b\n\0", 6);
        wrongRow("that ends with another byte", "6 a=b ", 0);
    }

    private static String letters(String name, boolean link) {
        TarForms x = rows(Raw.row(link ? "linkpath" : "path", name)).load();
        due("ROW of " + name.length(), x, false, 1, 0, 0);
        return Calls.letters(x, 0, link);
    }

    private static void wrongValue(String key, String value) {
        String row = Raw.row(key, value);
        int place = 512 + row.indexOf('=') + 1;
        due("value of " + key + " " + value, rows(row), 0, 9, place);
        due("value for all", Raw.begin().head(ROWS_FOR_ALL, "g", row).end(), 0, 9, place);
    }

    private static void rowNames() {
        String most = Calls.text('n', 300);
        CHECK.due("path", letters("p/q=r\ns", false), "p/q=r\ns");
        CHECK.due("path of 300", letters(most, false), most);
        CHECK.due("linkpath", letters("l", true), "l");
        for (String key : new String[] {"path", "linkpath"}) {
            wrongValue(key, "");
            wrongValue(key, "a\0b");
            wrongValue(key, "\0");
            due(key + " of 400", rows(Raw.row(key, Calls.text('n', 400))), 1, 0, 0);
            wrongValue(key, Calls.text('n', 401));
        }
        TarForms x = rows(Raw.row("path", "p") + Raw.row("path", "q")).load();
        x.read(false);
        CHECK.due("the later ROW counts", Calls.letters(x, 0, false), "q");
        x = rows(Raw.row("Path", "p") + Raw.row("path ", "p") + Raw.row("pat", "p")).load();
        x.read(false);
        CHECK.due("other keys are passed over", Calls.letters(x, 0, false), "a");
    }

    private static void rowNumbers() {
        String[] keys = {"uid", "gid"};
        for (int i = 0; i < keys.length; i++) {
            for (String value : new String[] {"0", "7", "008", "999999999999999999"}) {
                TarForms x = rows(Raw.row(keys[i], value)).load();
                due(keys[i] + " " + value, x, false, 1, 0, 0);
                CHECK.due(keys[i] + " " + value + ": value", x.found(0, 2 + i), Long.parseLong(value));
            }
        }
        for (String key : new String[] {"uid", "gid", "size"}) {
            wrongValue(key, "");
            wrongValue(key, "-1");
            wrongValue(key, "1 ");
            wrongValue(key, "1.0");
            wrongValue(key, "1:");
            wrongValue(key, "1/");
            wrongValue(key, "1234567890123456789");
        }
        TarForms x = Raw.begin().head(ROWS, "x", Raw.row("size", "3")).head(FILE, "a", "abc").end().load();
        x.read(false);
        CHECK.due("size", x.found(0, 4), 3);
    }

    private static void mtime(String value, long time, long nanos) {
        TarForms x = rows(Raw.row("mtime", value)).load();
        due("mtime " + value, x, false, 1, 0, 0);
        CHECK.due("mtime " + value + ": TIME", x.found(0, 5), time);
        CHECK.due("mtime " + value + ": NANOS", x.found(0, 6), nanos);
    }

    private static void rowTimes() {
        mtime("0", 0, 0);
        mtime("-0", 0, 0);
        mtime("-0.0", 0, 0);
        mtime("12.000000000", 12, 0);
        mtime("-12.0", -12, 0);
        mtime("1.5", 1, 500000000);
        mtime("-1.5", -2, 500000000);
        mtime("-0.000000001", -1, 999999999);
        mtime("0.000000001", 0, 1);
        mtime("0.12", 0, 120000000);
        mtime("9999999999999999.999999999", 9999999999999999L, 999999999);
        mtime("-9999999999999999.999999999", -10000000000000000L, 1);
        mtime("0000000000000001", 1, 0);
        String[] wrong = {
            "", "-", ".", "-.5", ".5", "1.", "+1", "--1", "1.5.5", "1.-5", "1 ", "1,5", "1.1234567890",
            "12345678901234567", "x", "1e5", "1-"
        };
        for (String value : wrong) {
            wrongValue("mtime", value);
        }
    }

    private static TarForms longAhead(int kind, String data) {
        return Raw.begin().head(kind, "L", data).head('2', "a").put(157, "b").end().load();
    }

    private static void longNames() {
        for (int kind : new int[] {LONG_LINK, LONG_NAME}) {
            boolean link = kind == LONG_LINK;
            TarForms x = longAhead(kind, "xyz\0");
            due(kind + " with a 0", x, false, 1, 0, 0);
            CHECK.due(kind + " with a 0", Calls.letters(x, 0, link), "xyz");
            CHECK.due(kind + ": the other one", Calls.letters(x, 0, !link), link ? "a" : "b");
            x = longAhead(kind, "xyz");
            x.read(false);
            CHECK.due(kind + " without 0", Calls.letters(x, 0, link), "xyz");
            x = longAhead(kind, "xyz\0abc\0");
            x.read(false);
            CHECK.due(kind + " with two 0s", Calls.letters(x, 0, link), "xyz");
            due(kind + " of none", longAhead(kind, ""), false, 0, 9, 512);
            due(kind + " of a 0", longAhead(kind, "\0abc"), false, 0, 9, 512);
            due(kind + " of 400", longAhead(kind, Calls.text('n', 400)), false, 1, 0, 0);
            due(kind + " of 400 and 0", longAhead(kind, Calls.text('n', 400) + "\0"), false, 1, 0, 0);
            due(kind + " of 401", longAhead(kind, Calls.text('n', 401)), false, 0, 9, 512);
            due(kind + " of 401 and 0", longAhead(kind, Calls.text('n', 401) + "\0"), false, 0, 9, 512);
        }
        Raw both = Raw.begin().head(LONG_NAME, "L", "one").head(ROWS, "x", Raw.row("path", "two")).head(FILE, "a");
        TarForms x = both.end().load();
        x.read(false);
        CHECK.due("the later counts: a ROW", Calls.letters(x, 0, false), "two");
        both = Raw.begin().head(ROWS, "x", Raw.row("path", "two")).head(LONG_NAME, "L", "one").head(FILE, "a");
        x = both.end().load();
        x.read(false);
        CHECK.due("the later counts: 76", Calls.letters(x, 0, false), "one");
    }

    private static void atMostForty() {
        due("40", Raw.files(40).end(), 40, 0, 0);
        due("41", Raw.files(41).end(), 40, 10, 40 * 512);
        due("41 without NAME", Raw.files(40).head(FILE, "").end(), 40, 10, 40 * 512);
        due("41 without DATA", Raw.files(41).put(124, "1").trim(41 * 512), 40, 7, 40 * 512);
        due("41, and more behind", Raw.files(42).head('?', "a").end(), 40, 10, 40 * 512);
        due("40, and something told ahead", Raw.files(40).head(ROWS, "x", "6 a=b\n").end(), 40, 0, 0);
    }

    private static void noName() {
        due("no NAME", file().head(FILE, "").end(), 1, 11, 512);
        due("no NAME, and more behind", file().head(FILE, "").head(FILE, "b").end(), 1, 11, 512);
        due("no NAME, but told", Raw.begin().head(LONG_NAME, "L", "n").head(FILE, "").end(), 1, 0, 0);
        due("no NAME, but FRONT", Raw.begin().head(FILE, "").put(345, "f").ustar().end(), 1, 0, 0);
        due("no NAME, FRONT without MAGIC", Raw.begin().head(FILE, "").put(345, "f").end(), 0, 11, 0);
        due("NAME behind a 0", Raw.begin().head(FILE, "\0a").end(), 0, 11, 0);
        due("no NAME of ROWS", Raw.begin().head(ROWS, "", Raw.row("uid", "1")).head(FILE, "a").end(), 1, 0, 0);
    }

    private static void toldAhead() {
        String[] values = {
            Raw.row("path", "p"), Raw.row("linkpath", "p"), Raw.row("uid", "0"), Raw.row("gid", "0"),
            Raw.row("size", "0"), Raw.row("mtime", "0")
        };
        for (String row : values) {
            due("end behind " + row, file().head(ROWS, "x", row).end(), 1, 12, 1536);
            due("nothing behind " + row, file().head(ROWS, "x", row), 1, 12, 1536);
            due("for all: end behind " + row, file().head(ROWS_FOR_ALL, "g", row).end(), 1, 0, 0);
            due("for all: nothing behind " + row, file().head(ROWS_FOR_ALL, "g", row), 1, 1, 1536);
        }
        for (int kind : new int[] {LONG_LINK, LONG_NAME}) {
            due("end behind " + kind, file().head(kind, "L", "n").end(), 1, 12, 1536);
            due("nothing behind " + kind, file().head(kind, "L", "n"), 1, 12, 1536);
        }
        due("half a BLOCK behind", file().head(LONG_NAME, "L", "n").zeros(511), 1, 2, 1536);
        due("a BLOCK of 0s behind", file().head(LONG_NAME, "L", "n").zeros(512), 1, 3, 1536);
        due("with ON", file().head(LONG_NAME, "L", "n").end().head(FILE, "b").end().load(), true, 1, 12, 1536);
        due("nothing told", file().head(ROWS, "x", "6 a=b\n").end(), 1, 0, 0);
        due("told and used", Raw.begin().head(LONG_NAME, "L", "n").head(FILE, "b").end(), 1, 0, 0);
        TarForms x = file().head(LONG_NAME, "L", "n").end().load();
        x.read(false);
        CHECK.due("that end is one, too", x.told(3), 1);
        x = file().head(LONG_NAME, "L", "n").load();
        x.read(false);
        CHECK.due("no byte left is no end", x.told(3), 0);
        x.trim(512);
        due("what was told ahead is gone with the next read", x, false, 1, 1, 512);
        CHECK.due("NAME by the next read", Calls.letters(x, 0, false), "a");
        x = Raw.begin().head(ROWS_FOR_ALL, "g", Raw.row("uid", "7")).head(FILE, "a").end().load();
        x.read(false);
        CHECK.due("UID for all", x.found(0, 2), 7);
        x.poke(156, ROWS_FOR_ALL ^ FILE);
        x.sum(0);
        due("what was told for all is gone, too", x, false, 2, 0, 0);
        CHECK.due("UID by the next read", x.found(1, 2), 0);
    }

    private static void orderOfFaults() {
        Raw all = file().put(100, "x").put(156, "?").put(124, "77777").unsummed(148, "x").end();
        due("SUM first", all, 0, 4, 148);
        due("numbers second", file().put(108, "x").put(156, "?").end(), 0, 5, 108);
        due("KIND third", file().put(156, "?").put(124, "77777").end(), 0, 6, 156);
        due("DATA ahead of NAME", Raw.begin().head(FILE, "").put(124, "77777").end(), 0, 7, 0);
        due("DATA ahead of ROWS", Raw.begin().head(ROWS, "x", "bad").put(124, "77777").end(), 0, 7, 0);
        due("the first ROW", rows(Raw.row("uid", "x") + "bad"), 0, 9, 512 + 6);
        due("what was FOUND stands", Raw.files(3).head('?', "a").end(), 3, 6, 3 * 512 + 156);
    }
}
