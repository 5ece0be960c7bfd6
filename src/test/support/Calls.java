import java.util.function.Supplier;

/** Ways to use an object that take several calls; a text stands for bytes 0 .. 255. */
public final class Calls {
    private static final int CALLS_FOR_OCTETS = 250;

    private Calls() {
    }

    /** Feeds a text to an empty TAPE. */
    public static void tape(TarForms x, String text) {
        for (int i = 0; i < text.length(); i += 16) {
            x.feed(word(text, i), word(text, i + 4), word(text, i + 8), word(text, i + 12));
        }
        x.cut(text.length());
    }

    private static int word(String text, int from) {
        int word = 0;
        for (int i = from; i < from + 4; i++) {
            word = word << 8 | (i < text.length() ? text.charAt(i) : 0);
        }
        return word;
    }

    public static int name(TarForms x, String text) {
        tape(x, text);
        return x.name(false);
    }

    public static int link(TarForms x, String text) {
        tape(x, text);
        return x.name(true);
    }

    public static int file(TarForms x, String name, int size, int seed) {
        name(x, name);
        return x.entry(48, size, seed);
    }

    public static int linkEntry(TarForms x, int kind, String name, String link) {
        name(x, name);
        link(x, link);
        return x.entry(kind, 0, 0);
    }

    /** The bytes of THE ARCHIVE, from as many new objects as 512 calls each ask for. */
    public static String archive(Supplier<TarForms> maker) {
        TarForms x = maker.get();
        int length = x.told(4);
        StringBuilder out = new StringBuilder();
        for (int i = 0; i < length; i++) {
            if (i % CALLS_FOR_OCTETS == 0) {
                x = maker.get();
            }
            out.append((char) x.octet(i));
        }
        return out.toString();
    }

    public static String letters(TarForms x, int i, boolean link) {
        StringBuilder out = new StringBuilder();
        int c = x.letter(i, link, 0);
        while (c >= 0) {
            out.append((char) c);
            c = x.letter(i, link, out.length());
        }
        return out.toString();
    }

    public static String text(char c, int n) {
        return String.valueOf(c).repeat(n);
    }
}
