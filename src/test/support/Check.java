/** Counts the answers that are not the due ones; a test ends with close(). */
public final class Check {
    private int wrong = 0;
    private int seen = 0;

    public void due(String call, long got, long want) {
        seen++;
        if (got != want) {
            wrong++;
            System.out.println(call + " answered " + got + ", due is " + want);
        }
    }

    public void due(String what, String got, String want) {
        seen++;
        if (!got.equals(want)) {
            wrong++;
            System.out.println(what + " is " + shown(got) + ", due is " + shown(want));
        }
    }

    public void isTrue(String what, boolean holds) {
        due(what, holds ? 1 : 0, 1);
    }

    /** Reads THE ARCHIVE; how many are to be FOUND, and the FAULT with its place. */
    public void dueRead(String what, TarForms x, boolean on, int found, int fault, int place) {
        due(what + ": read", x.read(on), found);
        due(what + ": FAULT", x.told(0), fault);
        due(what + ": place", x.told(1), place);
        due(what + ": FOUND", x.told(2), found);
    }

    public void close() {
        System.out.println(seen + " answers, " + wrong + " not as due");
        if (wrong != 0 || seen == 0) {
            System.exit(1);
        }
    }

    private static String shown(String text) {
        StringBuilder out = new StringBuilder();
        for (char c : text.toCharArray()) {
            if (c >= 32 && c < 127) {
                out.append(c);
            } else {
                out.append('<').append((int) c).append('>');
            }
        }
        return out.toString();
    }
}
