import java.math.BigInteger;
import java.util.function.Supplier;

/** What is to be WRITTEN, told once more by the Java library, and compared byte by byte. */
public final class Due {
    public static final String END = "\0".repeat(1024);
    /** UID, GID and TIME of 0. */
    public static final String ZEROS = numbers(0, 0, 0);
    private static final String[] MAGIC = {
        "\0\0\0\0\0\0\0\0", "ustar\0" + "00", "ustar\0" + "00", "ustar  \0"
    };

    private Due() {
    }

    public static String octal(long v, int width) {
        return String.format("%0" + (width - 1) + "o", v) + "\0";
    }

    public static String by256(long v, int width) {
        BigInteger all = BigInteger.valueOf(v);
        if (v < 0) {
            all = all.add(BigInteger.ONE.shiftLeft(8 * (width - 1)));
        }
        StringBuilder out = new StringBuilder();
        for (int i = width - 2; i >= 0; i--) {
            out.append((char) all.shiftRight(8 * i).and(BigInteger.valueOf(255)).intValue());
        }
        return (v < 0 ? "\377" : "\200") + out;
    }

    private static String padded(String text, int width) {
        return text + "\0".repeat(width - text.length());
    }

    /** UID, GID and TIME come as they stand in their fields. */
    public static String head(String name, int mode, String numbers, int size, String kindAndLink, int family) {
        return headWithFront(name, mode, numbers, size, kindAndLink, family, "");
    }

    public static String headWithFront(
            String name, int mode, String numbers, int size, String kindAndLink, int family, String front) {
        String uidGid = numbers.substring(0, 16);
        String time = numbers.substring(16);
        String before = padded(name, 100) + octal(mode, 8) + uidGid + octal(size, 12) + time;
        String behind = padded(kindAndLink, 101) + padded(MAGIC[family], 88) + padded(front, 167);
        int sum = 8 * 32;
        for (char c : (before + behind).toCharArray()) {
            sum += c;
        }
        String whole = before + String.format("%06o", sum) + "\0 " + behind;
        if (whole.length() != 512) {
            throw new IllegalStateException("no BLOCK: " + whole.length());
        }
        return whole;
    }

    public static String numbers(long uid, long gid, long time) {
        return octal(uid, 8) + octal(gid, 8) + octal(time, 12);
    }

    public static String blocks(String data) {
        return data + "\0".repeat((512 - data.length() % 512) % 512);
    }

    public static String data(int size, int seed) {
        StringBuilder out = new StringBuilder();
        for (int i = 0; i < size; i++) {
            int h = (seed + i) * 0x9E3779B1;
            out.append((char) ((h ^ (h >>> 15)) & 255));
        }
        return blocks(out.toString());
    }

    public static String rowsAhead(String rows) {
        return head("PaxHeader", 420, ZEROS, rows.length(), "x", 2) + blocks(rows);
    }

    public static String longAhead(int kind, String text) {
        String name = "././@LongLink";
        return head(name, 420, ZEROS, text.length() + 1, "" + (char) kind, 3) + blocks(text + "\0");
    }

    public static void compare(Check check, String what, Supplier<TarForms> maker, String due) {
        String got = Calls.archive(maker);
        check.due(what + ": length", got.length(), due.length());
        int place = 0;
        while (place < got.length() && place < due.length() && got.charAt(place) == due.charAt(place)) {
            place++;
        }
        if (place < Math.max(got.length(), due.length())) {
            check.due(what + ": first place that differs", place, -1);
            int end = place + 24;
            check.due(what + " there", got.substring(place, Math.min(end, got.length())),
                due.substring(place, Math.min(end, due.length())));
        }
    }
}
