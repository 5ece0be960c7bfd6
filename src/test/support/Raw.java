/**
 * An archive made byte by byte, not by write(), so that reading is tested on its own. Fields that
 * a test does not set stay 0s, which reads as the number 0 and keeps the pokes few.
 */
public final class Raw {
    private final StringBuilder bytes = new StringBuilder();
    private int head = 0;

    public static Raw begin() {
        return new Raw();
    }

    /** So many HEADS of files, each with as few bytes as can be. */
    public static Raw files(int n) {
        Raw raw = begin();
        for (int i = 0; i < n; i++) {
            raw.head(0, "a");
        }
        return raw;
    }

    /** A HEAD with DATA behind it, filled to BLOCKS. */
    public Raw head(int kind, String name, String data) {
        head = bytes.length();
        zeros(512);
        put(0, name);
        if (!data.isEmpty()) {
            put(124, Integer.toOctalString(data.length()));
        }
        put(156, String.valueOf((char) kind));
        bytes.append(data);
        zeros((512 - data.length() % 512) % 512);
        return this;
    }

    public Raw head(int kind, String name) {
        return head(kind, name, "");
    }

    /** Bytes of the latest HEAD; its SUM is made anew. */
    public Raw put(int at, String text) {
        unsummed(at, text);
        unsummed(148, String.format("%06o", sum()) + "\0 ");
        return this;
    }

    /** Bytes of the latest HEAD, its SUM left as it was. */
    public Raw unsummed(int at, String text) {
        bytes.replace(head + at, head + at + text.length(), text);
        return this;
    }

    public Raw ustar() {
        return put(257, "ustar\0" + "00");
    }

    public Raw zeros(int n) {
        bytes.append("\0".repeat(n));
        return this;
    }

    public Raw end() {
        return zeros(1024);
    }

    public Raw trim(int n) {
        bytes.setLength(n);
        return this;
    }

    public int length() {
        return bytes.length();
    }

    public int sum() {
        return sum(false);
    }

    public int sum(boolean signed) {
        int total = 0;
        for (int i = 0; i < 512; i++) {
            int b = i >= 148 && i < 156 ? 32 : bytes.charAt(head + i);
            total += signed ? (byte) b : b;
        }
        return total;
    }

    /** A new object whose ARCHIVE has these bytes: blank ends first, then poke by poke. */
    public TarForms load() {
        TarForms x = new TarForms();
        int calls = 0;
        while (x.told(4) < bytes.length()) {
            x.write(0, true);
            calls += 2;
        }
        x.trim(bytes.length());
        for (int i = 0; i < bytes.length(); i++) {
            if (bytes.charAt(i) != 0) {
                x.poke(i, bytes.charAt(i));
                calls++;
            }
        }
        if (calls > 470) {
            throw new IllegalStateException("too many calls for one object: " + calls);
        }
        return x;
    }

    /** A ROW, its length counted by trying. */
    public static String row(String key, String value) {
        String rest = " " + key + "=" + value + "\n";
        int length = rest.length();
        while (String.valueOf(length).length() + rest.length() != length) {
            length++;
        }
        return length + rest;
    }
}
