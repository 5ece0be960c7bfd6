/** Promises 10 to 13: trim, poke, sum and octet. */
public final class BytesTest {
    private static final Check CHECK = new Check();

    public static void main(String[] args) {
        trim();
        poke();
        octet();
        sum();
        sumOfHighBytes();
        CHECK.close();
    }

    private static void due(String call, long got, long want) {
        CHECK.due(call, got, want);
    }

    private static TarForms oneFile() {
        TarForms x = new TarForms();
        Calls.file(x, "a.txt", 5, 5);
        x.write(1, false);
        return x;
    }

    private static void trim() {
        TarForms x = new TarForms();
        due("trim(0) of none", x.trim(0), 0);
        due("trim(1) of none", x.trim(1), -1);
        x = oneFile();
        due("trim(2049)", x.trim(2049), -1);
        due("trim(-1)", x.trim(-1), -1);
        due("trim(min)", x.trim(Integer.MIN_VALUE), -1);
        due("trim refused: told(4)", x.told(4), 2048);
        due("trim(2048)", x.trim(2048), 0);
        due("trim(2047)", x.trim(2047), 1);
        due("trim: told(4)", x.told(4), 2047);
        due("trim: octet that went", x.octet(2047), -1);
        due("trim: octet that stays", x.octet(0), 97);
        due("trim(512)", x.trim(512), 1535);
        due("trim: written behind", x.write(1, true), 2560);
        due("trim: what went does not come back", x.octet(512), 97);
        due("trim(0)", x.trim(0), 2560);
        due("trim: told(4) of none", x.told(4), 0);
    }

    private static void poke() {
        TarForms x = new TarForms();
        due("poke of none", x.poke(0, 0), -1);
        x = oneFile();
        due("poke by 0", x.poke(0, 0), 97);
        due("poke by 1", x.poke(0, 1), 96);
        due("poke again", x.poke(0, 1), 97);
        due("poke by 255", x.poke(0, 255), 158);
        due("poke: octet", x.octet(0), 158);
        due("poke last", x.poke(2047, 128), 128);
        due("poke behind", x.poke(2048, 1), -1);
        due("poke(-1)", x.poke(-1, 1), -1);
        due("poke(max)", x.poke(Integer.MAX_VALUE, 1), -1);
        due("poke(min)", x.poke(Integer.MIN_VALUE, 1), -1);
        due("poke by 256", x.poke(1, 256), -1);
        due("poke by -1", x.poke(1, -1), -1);
        due("poke refused: octet", x.octet(1), 46);
    }

    private static void octet() {
        TarForms x = oneFile();
        String magic = "ustar\0" + "00";
        for (int i = 0; i < magic.length(); i++) {
            due("octet " + (257 + i), x.octet(257 + i), magic.charAt(i));
        }
        due("octet of last", x.octet(2047), 0);
        due("octet behind", x.octet(2048), -1);
        due("octet(-1)", x.octet(-1), -1);
        due("octet(min)", x.octet(Integer.MIN_VALUE), -1);
        due("octet(max)", x.octet(Integer.MAX_VALUE), -1);
        boolean high = false;
        for (int i = 0; i < 5; i++) {
            int h = (5 + i) * 0x9E3779B1;
            due("octet of DATA " + i, x.octet(512 + i), (h ^ (h >>> 15)) & 255);
            high |= x.octet(512 + i) > 127;
        }
        CHECK.isTrue("a byte above 127 was there", high);
    }

    private static void sum() {
        TarForms x = new TarForms();
        due("sum of none", x.sum(0), -1);
        x = oneFile();
        int written = 0;
        for (int i = 148; i < 154; i++) {
            written = written * 8 + x.octet(i) - 48;
        }
        due("sum as written", x.sum(0), written);
        due("sum again", x.sum(0), written);
        x.poke(0, 1);
        due("sum of another NAME", x.sum(0), written - 1);
        for (int i = 148; i < 156; i++) {
            x.poke(i, 255);
        }
        due("sum: its own bytes count as 32", x.sum(0), written - 1);
        String field = String.format("%06o", written - 1) + "\0 ";
        for (int i = 0; i < 8; i++) {
            due("sum: octet " + (148 + i), x.octet(148 + i), field.charAt(i));
        }
        due("sum of 0s", x.sum(1024), 256);
        due("sum of the last BLOCK", x.sum(1536), 256);
        due("sum: 256 in octal", x.octet(1536 + 151), 52);
        due("sum(1)", x.sum(1), -1);
        due("sum(-512)", x.sum(-512), -1);
        due("sum(2048)", x.sum(2048), -1);
        due("sum(min)", x.sum(Integer.MIN_VALUE), -1);
        due("sum(max)", x.sum(Integer.MAX_VALUE - 511), -1);
        x.trim(2047);
        due("sum of no whole BLOCK", x.sum(1536), -1);
        due("sum of a whole one", x.sum(1024), 256);
    }

    private static void sumOfHighBytes() {
        TarForms x = new TarForms();
        x.write(0, false);
        for (int i = 0; i < 400; i++) {
            x.poke(i, 255);
        }
        due("sum of 392 bytes of 255", x.sum(0), 392 * 255 + 256);
        due("first digit", x.octet(148), 51);
    }
}
