import java.math.BigDecimal;
import java.math.BigInteger;
import java.math.RoundingMode;
import java.util.regex.Pattern;

/** Part 3 and promises 14, 15, a method for each sentence that names a boundary, with its words. */
public final class ReadEdgesTest {
    private static final Check CHECK = new Check();
    private static final int FILE = 48, ROWS = 120, ROWS_FOR_ALL = 103, LONG_LINK = 75, LONG_NAME = 76;

    public static void main(String[] args) {
        noByteLeft();
        fewerThanABlock();
        nextBlockOfZeros();
        overWithoutOn();
        blocksPassedOver();
        leftBehindAnEnd();
        endsOneBehindTheOther();
        allZeros();
        sumByBothWays();
        octalAsRead();
        octalOfTwelve();
        by256();
        dataNotThere();
        sizeOfRows();
        rowDigits();
        rowLengths();
        rowOfFourDigits();
        equalsSign();
        keys();
        pathValues();
        numberValues();
        timeValues();
        longNames();
        fortyOne();
        readAnew();
        CHECK.close();
    }

    private static void due(String what, TarForms x, boolean on, int found, int fault, int place) {
        CHECK.dueRead(what, x, on, found, fault, place);
    }

    private static void due(String what, Raw raw, int found, int fault, int place) {
        CHECK.dueRead(what, raw.load(), false, found, fault, place);
    }

    private static void dueEnds(String what, TarForms x, int ends) {
        CHECK.due(what + ": ends", x.told(3), ends);
    }

    // ---- where a HEAD is to be

    /** "1 (p): no byte is left". */
    private static void noByteLeft() {
        for (int n : new int[] {0, 1, 2, 40}) {
            for (boolean on : new boolean[] {false, true}) {
                TarForms x = Raw.files(n).load();
                due("no byte behind " + n, x, on, n, 1, 512 * n);
                dueEnds("no byte behind " + n, x, 0);
            }
        }
    }

    /** "2 (p): fewer than 512 are". */
    private static void fewerThanABlock() {
        for (int left : new int[] {1, 2, 256, 510, 511}) {
            for (int n : new int[] {0, 1, 3}) {
                due(left + " bytes behind " + n, Raw.files(n).zeros(left), n, 2, 512 * n);
                TarForms x = Raw.files(n).head(FILE, "b").trim(512 * n + left).load();
                due(left + " bytes of a HEAD behind " + n, x, true, n, 2, 512 * n);
                dueEnds(left + " bytes", x, 0);
            }
        }
    }

    /** "if the next one is whole and all 0s, too, that is an end. If the next one is not so: 3 (p)". */
    private static void nextBlockOfZeros() {
        for (int more : new int[] {0, 1, 2, 256, 510, 511}) {
            TarForms x = Raw.files(1).zeros(512 + more).load();
            due("0s, " + more, x, false, 1, 3, 512);
            due("0s, with ON, " + more, x, true, 1, 3, 512);
            dueEnds("0s, " + more, x, 0);
        }
        TarForms x = Raw.files(1).end().load();
        due("an end", x, false, 1, 0, 0);
        dueEnds("an end", x, 1);
        for (int place : new int[] {1024, 1025, 1280, 1534, 1535}) {
            x.poke(place, 128);
            due("a byte at " + place, x, false, 1, 3, 512);
            x.poke(place, 128);
        }
        for (int place : new int[] {512, 513, 768, 1022, 1023}) {
            x.poke(place, 128);
            due("a byte at " + place, x, false, 1, 4, 512 + 148);
            x.poke(place, 128);
        }
    }

    /** "without ON it is over", whatever is behind. */
    private static void overWithoutOn() {
        for (int more : new int[] {0, 1, 511, 512, 513, 1024}) {
            TarForms x = Raw.files(1).end().zeros(more).load();
            if (more > 0) {
                x.poke(1536, 1);
            }
            due("over ahead of " + more, x, false, 1, 0, 0);
            dueEnds("over ahead of " + more, x, 1);
        }
    }

    /** "with ON all BLOCKS of 0s behind it are passed over, else it goes on there". */
    private static void blocksPassedOver() {
        for (int more = 0; more <= 5; more++) {
            TarForms x = Raw.files(1).end().zeros(512 * more).head(FILE, "b").end().load();
            due(more + " BLOCKS more", x, true, 2, 0, 0);
            dueEnds(more + " BLOCKS more", x, 2);
            CHECK.due("where it goes on", x.found(1, 7), 1536 + 512 * more);
            due(more + " BLOCKS more, without ON", x, false, 1, 0, 0);
            dueEnds(more + " BLOCKS more, without ON", x, 1);
        }
    }

    /** "if fewer than 512 bytes are left then, it is over, else it goes on there". */
    private static void leftBehindAnEnd() {
        for (int left : new int[] {0, 1, 2, 510, 511, 512, 513}) {
            for (int blocks = 0; blocks <= 2; blocks++) {
                TarForms x = Raw.files(1).end().zeros(512 * blocks + left).load();
                int last = 1536 + 512 * blocks + left - 1;
                if (left > 0) {
                    x.poke(last, 1);
                }
                boolean goesOn = left >= 512;
                int place = 1536 + 512 * blocks;
                // Of 513 bytes the first 512 are one BLOCK of 0s more, and one is left.
                boolean isOver = !goesOn || left == 513;
                due(left + " left behind " + blocks, x, true, 1, isOver ? 0 : 4, isOver ? 0 : place + 148);
                dueEnds(left + " left", x, 1);
            }
        }
    }

    /** "several archives one behind the other": how many ends there were. */
    private static void endsOneBehindTheOther() {
        for (int n = 1; n <= 8; n++) {
            Raw raw = Raw.begin();
            for (int i = 0; i < n; i++) {
                raw.head(FILE, "a").end();
            }
            TarForms x = raw.load();
            due(n + " archives", x, true, n, 0, 0);
            dueEnds(n + " archives", x, n);
            x.trim(1536 * n - 1);
            due("the last end is not whole", x, true, n, 3, 1536 * n - 1024);
            dueEnds("the last end is not whole", x, n - 1);
            x.trim(1536 * n - 1024);
            due("no last end", x, true, n, 1, 1536 * n - 1024);
            dueEnds("no last end", x, n - 1);
        }
    }

    /** A full ARCHIVE that has 0s alone is one end, and so is the least one. */
    private static void allZeros() {
        for (int bytes : new int[] {1024, 1025, 1535, 1536, 32767, 32768}) {
            for (boolean on : new boolean[] {false, true}) {
                TarForms x = Raw.begin().zeros(bytes).load();
                due(bytes + " 0s", x, on, 0, 0, 0);
                dueEnds(bytes + " 0s", x, 1);
            }
        }
        TarForms x = Raw.begin().zeros(32256).head(FILE, "a").load();
        due("a HEAD at the end of it", x, true, 1, 1, 32768);
        CHECK.due("where it begins", x.found(0, 7), 32256);
        CHECK.due("where its DATA begins", x.found(0, 8), 32768);
    }

    // ---- SUM and numbers

    /** "4: neither that of the BLOCK, nor the one with each byte as - 128 .. 127". */
    private static void sumByBothWays() {
        String high = "\200\377\177a";
        for (boolean signed : new boolean[] {false, true}) {
            int sum = Raw.begin().head(FILE, high).sum(signed);
            for (int more = -1; more <= 1; more++) {
                String field = String.format("%06o", sum + more) + "\0 ";
                Raw raw = Raw.begin().head(FILE, high).unsummed(148, field).end();
                due("SUM and " + more, raw, more == 0 ? 1 : 0, more == 0 ? 0 : 4, more == 0 ? 0 : 148);
            }
        }
        String none = "\0\0\0\0\0\0\0\0";
        Raw zero = Raw.begin().head(0, "\200\200").unsummed(148, none).end();
        due("a SUM of no digits is 0, and so are the bytes", zero, 1, 0, 0);
        due("they are 1", Raw.begin().head(0, "\200\201").unsummed(148, none).end(), 0, 4, 148);
        due("they are below 0", Raw.begin().head(0, "\200\200\377").unsummed(148, none).end(), 0, 4, 148);
    }

    private static final Pattern OCTAL = Pattern.compile(" *[0-7]*[\0 ]*");

    /** "OCTAL: any number of 32, then digits 48 .. 55, perhaps none (0), then only 0 and 32". */
    private static void octalAsRead() {
        String signs = " 07\0" + "8/";
        int forms = 6 * 6 * 6 * 6;
        for (int form = 0; form < forms; form++) {
            StringBuilder text = new StringBuilder();
            for (int rest = form, i = 0; i < 4; i++, rest /= 6) {
                text.append(signs.charAt(rest % 6));
            }
            dueField(form % 2 == 0 ? 100 : 116, "0000" + text);
            dueField(108, text + (form % 2 == 0 ? "    " : "\0\0\0\0"));
        }
    }

    /** A field of 8 bytes, its number told by a pattern and BigInteger. */
    private static void dueField(int at, String text) {
        TarForms x = Raw.begin().head(FILE, "a").put(at, text).end().load();
        boolean isNumber = OCTAL.matcher(text).matches();
        due("field " + text, x, false, isNumber ? 1 : 0, isNumber ? 0 : 5, isNumber ? 0 : at);
        if (isNumber) {
            String digits = "0" + text.replaceAll("[\0 ]", "");
            int what = at == 100 ? 1 : at == 108 ? 2 : 3;
            CHECK.due("value of " + text, x.found(0, what), new BigInteger(digits, 8).longValueExact());
        }
    }

    private static void octalOfTwelve() {
        String[] fields = {"777777777777", "77777777777\0", "           7", "            ", "7           ", "\0"};
        long[] values = {(1L << 36) - 1, (1L << 33) - 1, 7, 0, 7, 0};
        for (int i = 0; i < fields.length; i++) {
            TarForms x = Raw.begin().head(FILE, "a").put(136, fields[i]).end().load();
            due("TIME " + fields[i], x, false, 1, 0, 0);
            CHECK.due("TIME " + fields[i] + ": value", x.found(0, 5), values[i]);
        }
        for (String field : new String[] {"77777777777x", "           8", "7          7", "\0          7"}) {
            due("TIME " + field, Raw.begin().head(FILE, "a").put(136, field).end(), 0, 5, 136);
            due("SIZE " + field, Raw.begin().head(FILE, "a").put(124, field).end(), 0, 5, 124);
        }
    }

    /** "128, the others below 2^63; or 255, the others less 2^(8 times so many), not below - 2^63". */
    private static void by256() {
        BigInteger top = BigInteger.ONE.shiftLeft(88);
        for (int first : new int[] {128, 255}) {
            for (int bit = 0; bit < 88; bit++) {
                BigInteger one = BigInteger.ONE.shiftLeft(bit);
                dueBy256(first, one);
                dueBy256(first, one.subtract(BigInteger.ONE));
                dueBy256(first, top.subtract(one));
                dueBy256(first, top.subtract(one).subtract(BigInteger.ONE));
            }
        }
    }

    private static void dueBy256(int first, BigInteger others) {
        StringBuilder text = new StringBuilder().append((char) first);
        for (int i = 10; i >= 0; i--) {
            text.append((char) others.shiftRight(8 * i).and(BigInteger.valueOf(255)).intValue());
        }
        BigInteger v = first == 128 ? others : others.subtract(BigInteger.ONE.shiftLeft(88));
        boolean isNumber = v.bitLength() <= 63;
        TarForms x = Raw.begin().head(FILE, "a").put(136, text.toString()).end().load();
        due("TIME by 256 of " + v, x, false, isNumber ? 1 : 0, isNumber ? 0 : 5, isNumber ? 0 : 136);
        if (isNumber) {
            CHECK.due("TIME by 256 of " + v + ": value", x.found(0, 5), v.longValueExact());
        }
        boolean isSize = isNumber && v.signum() >= 0;
        boolean isThere = isSize && v.compareTo(BigInteger.valueOf(1024)) <= 0;
        x = Raw.begin().head(FILE, "a").put(124, text.toString()).end().load();
        CHECK.due("SIZE by 256 of " + v + ": FOUND", x.read(false), isThere ? 1 : 0);
        CHECK.isTrue("SIZE by 256 of " + v + ": 5", x.told(0) == 5 == !isSize);
        CHECK.isTrue("SIZE by 256 of " + v + ": 7", x.told(0) == 7 == (isSize && !isThere));
    }

    // ---- DATA

    /** "7 (p): SIZE bytes of DATA, filled to BLOCKS, are not there". */
    private static void dataNotThere() {
        int[] sizes = {0, 1, 511, 512, 513, 1023, 1024, 1025};
        int[] there = {0, 1, 511, 512, 513, 1023, 1024, 1025, 1536};
        for (int kind : new int[] {0, FILE, '1', '2', '5', ROWS_FOR_ALL}) {
            for (int size : sizes) {
                for (int bytes : there) {
                    dueData(kind, size, bytes);
                }
            }
        }
    }

    private static void dueData(int kind, int size, int bytes) {
        Raw raw = Raw.files(1).head(kind, "b");
        if (size > 0) {
            raw.put(124, Integer.toOctalString(size));
        }
        TarForms x = raw.zeros(bytes).load();
        x.read(false);
        String what = kind + " of " + size + " with " + bytes;
        boolean isThere = (size + 511) / 512 * 512 <= bytes;
        CHECK.due(what + ": 7", x.told(0) == 7 ? 1 : 0, isThere ? 0 : 1);
        if (!isThere) {
            CHECK.due(what + ": place", x.told(1), 512);
        }
        boolean isFound = isThere && kind != ROWS_FOR_ALL;
        CHECK.due(what + ": FOUND", x.told(2), isFound ? 2 : 1);
        if (isFound) {
            CHECK.due(what + ": SIZE", x.found(1, 4), size);
        }
    }

    /** "of an ENTRY the SIZE of a ROW, if one is told". */
    private static void sizeOfRows() {
        for (int kind : new int[] {ROWS, ROWS_FOR_ALL}) {
            for (int size : new int[] {0, 1, 512, 513, 1024, 1025}) {
                Raw raw = Raw.begin().head(kind, "x", Raw.row("size", "" + size)).head(FILE, "a").put(124, "1000");
                int blocks = (size + 511) / 512;
                TarForms x = raw.zeros(1024).load();
                x.read(true);
                boolean isThere = blocks <= 2;
                CHECK.due("SIZE of a ROW " + size, x.told(2), isThere ? 1 : 0);
                CHECK.due("its value", x.found(0, 4), isThere ? size : -9000000000000000000L);
                int[] faults = {0, 3, 1, 7};
                int[] places = {0, 2048, 2560, 1024};
                CHECK.due("FAULT behind " + size, x.told(0), faults[blocks]);
                CHECK.due("its place", x.told(1), places[blocks]);
            }
        }
        Raw raw = Raw.begin().head(ROWS_FOR_ALL, "g", Raw.row("size", "0")).head(ROWS, "x", Raw.row("size", "512"));
        TarForms x = raw.head(FILE, "a").zeros(512).head(FILE, "b").put(124, "777").end().load();
        due("of 120 for the next, of 103 for all", x, false, 2, 0, 0);
        CHECK.due("the next", x.found(0, 4), 512);
        CHECK.due("the one behind it", x.found(1, 4), 0);
    }

    // ---- ROWS

    private static Raw rows(int kind, String rows) {
        return Raw.begin().head(kind, "x", rows).head(FILE, "a").end();
    }

    private static void dueRows(String what, String rows, int fault, int place) {
        for (int kind : new int[] {ROWS, ROWS_FOR_ALL}) {
            due("ROWS " + what, rows(kind, rows), fault == 0 ? 1 : 0, fault, place);
        }
    }

    /** "8: no digits (1 to 4) and 32 behind them". */
    private static void rowDigits() {
        dueRows("of no digits", " a=b\n", 8, 512);
        dueRows("of 1", "6 a=b\n", 0, 0);
        dueRows("of 2", "07 a=b\n", 0, 0);
        dueRows("of 3", "008 a=b\n", 0, 0);
        dueRows("of 4", "0009 a=b\n", 0, 0);
        dueRows("of 5", "00010 a=b\n", 8, 512);
        for (char c : new char[] {0, 10, 31, 33, 47, 58, 61, 160}) {
            dueRows("32 is " + (int) c, "6" + c + "a=b\n", 8, 512);
            dueRows("32 behind 4 digits is " + (int) c, "0009" + c + "a=b\n", 8, 512);
        }
        for (char c : new char[] {0, 32, 45, 47, 58, 97}) {
            dueRows("the first digit is " + (int) c, c + "7 a=b\n", 8, 512);
            dueRows("the second digit is " + (int) c, "0" + c + " a=b\n\n", 8, 512);
        }
        dueRows("DATA ends behind digits", "0006", 8, 512);
        dueRows("DATA ends behind 32", "6 ", 8, 512);
        dueRows("DATA ends behind the key", "6 a", 8, 512);
    }

    /** "a length that goes beyond DATA; the last one of its bytes is not 10". */
    private static void rowLengths() {
        for (int length = 0; length <= 9; length++) {
            dueRows("of length " + length, length + " a=b\n", length == 6 ? 0 : 8, length == 6 ? 0 : 512);
            int fault = length == 6 ? 0 : 8;
            dueRows("behind another", "6 a=b\n" + length + " a=b\n", fault, fault == 0 ? 0 : 518);
        }
        for (int length : new int[] {99, 999, 9999}) {
            dueRows("of length " + length, length + " a=b\n", 8, 512);
        }
        for (int c : new int[] {0, 9, 11, 13, 32, 255}) {
            dueRows("whose last is " + c, "6 a=b" + (char) c, 8, 512);
        }
        dueRows("that ends behind 512 bytes", "6 a=b\n" + Raw.row("c", Calls.text('\0', 499)) + "6 a=b\n", 0, 0);
    }

    /** A length of 4 digits is one, when so many bytes are there; 0s are bytes of a value, too. */
    private static void rowOfFourDigits() {
        for (int length : new int[] {999, 1000, 1001, 4096, 9999}) {
            String row = length + " a=" + Calls.text('\0', length - 4 - ("" + length).length()) + "\n";
            CHECK.due("the row itself", row.length(), length);
            dueRows("of " + length, row, 0, 0);
            dueRows("of " + length + ", one too few", row.substring(0, length - 1), 8, 512);
            dueRows("of " + length + ", and another", row + "6 a=b\n", 0, 0);
        }
    }

    /** "between that 32 and this 10 there is no 61 (the key is what stands ahead of the first one)". */
    private static void equalsSign() {
        dueRows("without 61", "6 abc\n", 8, 512);
        dueRows("of 32 and 10 alone", "3 \n", 8, 512);
        dueRows("of 61 alone", "4 =\n", 0, 0);
        dueRows("61 at once behind 32", "5 =b\n", 0, 0);
        dueRows("61 at once ahead of 10", "5 a=\n", 0, 0);
        dueRows("the 61 is behind 10", "6 abc\n6 a=b\n", 8, 512);
        dueRows("uid with two 61s", "9 uid==1\n", 9, 518);
        dueRows("another key with two 61s", "9 uie==1\n", 0, 0);
        TarForms x = rows(ROWS, "11 path==n\n").load();
        due("path with two 61s", x, false, 1, 0, 0);
        CHECK.due("NAME", Calls.letters(x, 0, false), "=n");
    }

    /** "Keys path, linkpath, uid, gid, size, mtime count, others are passed over". */
    private static void keys() {
        for (String key : new String[] {"path", "linkpath", "uid", "gid", "size", "mtime"}) {
            dueRows(key + " counts", Raw.row(key, ""), 9, 512 + Raw.row(key, "").length() - 1);
            String[] others = {
                key.substring(1), key.substring(0, key.length() - 1), key + "s", " " + key, key + " ",
                key.toUpperCase(), key.replace(key.charAt(1), 'z'), "\0" + key
            };
            for (String other : others) {
                dueRows("other key " + other, Raw.row(other, ""), 0, 0);
            }
        }
        dueRows("no key", Raw.row("", ""), 0, 0);
    }

    private static void dueValue(String key, String value, boolean isValue) {
        String row = Raw.row(key, value);
        int place = 512 + row.indexOf('=') + 1;
        dueRows(key + " " + value, row, isValue ? 0 : 9, isValue ? 0 : place);
        if (!isValue) {
            due("a second " + key, rows(ROWS, "6 a=b\n" + row), 0, 9, place + 6);
        }
    }

    /** "9: path, linkpath with no bytes, with a 0, or of more than 400". */
    private static void pathValues() {
        for (String key : new String[] {"path", "linkpath"}) {
            dueValue(key, "", false);
            for (int length : new int[] {1, 2, 399, 400}) {
                dueValue(key, Calls.text('n', length), true);
            }
            for (int length : new int[] {401, 402}) {
                dueValue(key, Calls.text('n', length), false);
            }
            dueValue(key, "\0", false);
            dueValue(key, "\0nn", false);
            dueValue(key, "n\0n", false);
            dueValue(key, "nn\0", false);
            dueValue(key, "\1\377\n=", true);
        }
    }

    /** "uid, gid, size: not 1 to 18 digits". */
    private static void numberValues() {
        for (int i = 0; i < 3; i++) {
            String key = new String[] {"uid", "gid", "size"}[i];
            dueValue(key, "", false);
            for (int digits = 1; digits <= 21; digits++) {
                dueValue(key, Calls.text('0', digits), digits <= 18);
                if (i < 2) {
                    dueValue(key, Calls.text('9', digits), digits <= 18);
                }
            }
            for (String value : new String[] {"x", "/", ":", "-1", "+1", " 1", "1 ", "1.0", "1\0", "\0" + "1", "1e1"}) {
                dueValue(key, value, false);
            }
            TarForms x = rows(ROWS, Raw.row(key, i < 2 ? Calls.text('9', 18) : "000000000000000000")).load();
            x.read(false);
            CHECK.due(key + " of 18 digits", x.found(0, 2 + i), i < 2 ? 999999999999999999L : 0);
        }
    }

    /** "mtime: not 45 or nothing, 1 to 16 digits, and 46 and 1 to 9 digits or nothing". */
    private static void timeValues() {
        for (String sign : new String[] {"", "-"}) {
            for (int whole = 0; whole <= 18; whole++) {
                for (int part = -1; part <= 11; part++) {
                    String value = sign + Calls.text('9', whole) + (part < 0 ? "" : "." + Calls.text('8', part));
                    dueTime(value, whole >= 1 && whole <= 16 && part != 0 && part <= 9);
                }
            }
            for (String part : new String[] {"0", "00", "000000000", "000000001", "1", "10", "01", "999999999"}) {
                dueTime(sign + "0." + part, true);
                dueTime(sign + "0000000000000007." + part, true);
            }
        }
        String[] wrong = {"+1", "--1", "1-", "1..1", "1.1.", ".", "-", "-.1", "1 ", " 1", "1,1", "1.-1", "1\0", "1:"};
        for (String value : wrong) {
            dueTime(value, false);
        }
    }

    /** "TIME: the greatest whole number at or below mtime, NANOS the rest times 10^9". */
    private static void dueTime(String value, boolean isTime) {
        dueValue("mtime", value, isTime);
        if (isTime) {
            TarForms x = rows(ROWS, Raw.row("mtime", value)).load();
            x.read(false);
            BigDecimal v = new BigDecimal(value);
            BigDecimal floor = v.setScale(0, RoundingMode.FLOOR);
            CHECK.due("TIME of " + value, x.found(0, 5), floor.longValueExact());
            CHECK.due("NANOS of " + value, x.found(0, 6), v.subtract(floor).movePointRight(9).longValueExact());
        }
    }

    /** "KIND 75, 76: DATA up to the first 0 (or all); 9 (where DATA begins): none, or more than 400". */
    private static void longNames() {
        for (int kind : new int[] {LONG_LINK, LONG_NAME}) {
            for (int length : new int[] {0, 1, 2, 100, 101, 399, 400, 401, 402}) {
                String text = Calls.text('n', length);
                boolean isName = length >= 1 && length <= 400;
                for (String data : new String[] {text, text + "\0", text + "\0\0x"}) {
                    TarForms x = Raw.begin().head(kind, "L", data).head(FILE, "a").end().load();
                    due(kind + " of " + length, x, false, isName ? 1 : 0, isName ? 0 : 9, isName ? 0 : 512);
                    if (isName) {
                        CHECK.due("bytes", x.found(0, kind == LONG_LINK ? 10 : 9), length);
                        CHECK.due("the last one", x.letter(0, kind == LONG_LINK, length - 1), 'n');
                    }
                }
            }
        }
    }

    // ---- what is FOUND

    /** "an ENTRY is FOUND (40 at most; 10 (p): one more)", in one archive and in several. */
    private static void fortyOne() {
        for (int n = 39; n <= 41; n++) {
            boolean isOneMore = n > 40;
            due(n + " in one", Raw.files(n).end(), Math.min(n, 40), isOneMore ? 10 : 0, isOneMore ? 40 * 512 : 0);
            Raw raw = Raw.files(10).end();
            for (int i = 10; i < n; i++) {
                raw.head(0, "a");
            }
            TarForms x = raw.end().load();
            due(n + " in two", x, true, Math.min(n, 40), isOneMore ? 10 : 0, isOneMore ? 42 * 512 : 0);
            dueEnds(n + " in two", x, isOneMore ? 1 : 2);
            CHECK.due("the last one", x.found(Math.min(n, 40) - 1, 0), 48);
            CHECK.due("none behind it", x.found(Math.min(n, 40), 0), -9000000000000000000L);
        }
    }

    /** "THE ARCHIVE is READ: how many were FOUND. (What was FOUND before is gone.)" */
    private static void readAnew() {
        TarForms x = Raw.files(3).end().load();
        due("three", x, false, 3, 0, 0);
        x.poke(512 + 156, '?');
        due("spoilt, but not the SUM", x, false, 1, 4, 512 + 148);
        dueEnds("spoilt", x, 0);
        CHECK.due("the second is gone", x.found(1, 0), -9000000000000000000L);
        CHECK.due("its letters, too", x.letter(1, false, 0), -1);
        x.sum(512);
        due("with its SUM", x, false, 1, 6, 512 + 156);
        x.poke(512 + 156, '?');
        x.sum(512);
        due("mended", x, false, 3, 0, 0);
        dueEnds("mended", x, 1);
        x.trim(0);
        CHECK.due("what was FOUND stands", x.found(2, 7), 1024);
        due("nothing is left", x, false, 0, 1, 0);
        dueEnds("nothing is left", x, 0);
    }
}
