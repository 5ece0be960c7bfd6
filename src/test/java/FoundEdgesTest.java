import java.util.ArrayList;
import java.util.List;

/** What is FOUND, UNSAFE, and promises 15 to 17, a method for each sentence that names a boundary. */
public final class FoundEdgesTest {
    private static final Check CHECK = new Check();
    private static final long NONE = -9000000000000000000L;
    private static final int BAD = -1, MIN = Integer.MIN_VALUE, MAX = Integer.MAX_VALUE;
    private static final int FILE = 48, HARD = 49, SOFT = 50, FOLDER = 53;
    private static final int ROWS = 120, ROWS_FOR_ALL = 103, LONG_LINK = 75, LONG_NAME = 76;

    public static void main(String[] args) {
        told();
        foundOf(0);
        foundOf(1);
        foundOf(39);
        foundOf(40);
        lettersOfNames();
        nameFields();
        fronts();
        magic();
        noName();
        foldersByName();
        toldOrField();
        forTheNextAlone();
        laterRow();
        unsafeNames();
        unsafeLinks();
        heightOfLongWays();
        CHECK.close();
    }

    private static void due(String call, long got, long want) {
        CHECK.due(call, got, want);
    }

    private static TarForms read(Raw raw) {
        TarForms x = raw.end().load();
        x.read(false);
        due("FAULT", x.told(0), 0);
        return x;
    }

    /** "what = 0 .. 6. BAD"; "(0: none, or none was)". */
    private static void told() {
        TarForms x = new TarForms();
        for (int what = 0; what <= 6; what++) {
            due("new: told(" + what + ")", x.told(what), 0);
        }
        Calls.file(x, "a", 0, 0);
        Calls.tape(x, "tape!");
        x.write(0, false);
        x.write(0, true);
        x.trim(3071);
        x.read(true);
        int[] due = {3, 2048, 2, 1, 3071, 1, 5};
        for (int what = 0; what <= 6; what++) {
            due("told(" + what + ")", x.told(what), due[what]);
        }
        for (int what : new int[] {-1, 7, 8, MIN, MAX}) {
            due("told(" + what + ")", x.told(what), BAD);
        }
    }

    /** "Of one that was FOUND: 0 .. 11. -9000000000000000000: none such", with n that were FOUND. */
    private static void foundOf(int n) {
        TarForms x = read(Raw.files(n));
        due("FOUND", x.told(2), n);
        for (int i : new int[] {-1, n, n + 1, 40, 41, MIN, MAX}) {
            for (int what : new int[] {0, 7, 11}) {
                due("found(" + i + ", " + what + ") of " + n, x.found(i, what), NONE);
            }
            due("letter(" + i + ", false, 0) of " + n, x.letter(i, false, 0), BAD);
            due("letter(" + i + ", true, 0) of " + n, x.letter(i, true, 0), BAD);
        }
        if (n > 0) {
            long[] last = {48, 0, 0, 0, 0, 0, 0, 512 * n - 512, 512 * n, 1, 0, 0};
            for (int what = 0; what <= 11; what++) {
                due("found(" + (n - 1) + ", " + what + ")", x.found(n - 1, what), last[what]);
            }
            due("the first one's place", x.found(0, 7), 0);
            for (int what : new int[] {-1, 12, 13, MIN, MAX}) {
                due("found(0, " + what + ")", x.found(0, what), NONE);
                due("found(" + (n - 1) + ", " + what + ")", x.found(n - 1, what), NONE);
            }
        }
    }

    /** "Byte k of the NAME of one that was FOUND (link false), LINK. BAD". */
    private static void lettersOfNames() {
        for (int length : new int[] {1, 2, 100, 400}) {
            for (boolean link : new boolean[] {false, true}) {
                String text = "\377" + Calls.text('t', length - 1);
                TarForms x = read(Raw.begin().head(link ? LONG_LINK : LONG_NAME, "L", text).head(FILE, "a"));
                due("bytes", x.found(0, link ? 10 : 9), length);
                due("the first one", x.letter(0, link, 0), 255);
                due("the last one", x.letter(0, link, length - 1), length == 1 ? 255 : 't');
                for (int k : new int[] {-1, length, length + 1, 400, 401, MIN, MAX}) {
                    due("letter(0, " + link + ", " + k + ") of " + length, x.letter(0, link, k), BAD);
                }
            }
        }
        TarForms x = read(Raw.begin().head(FILE, "a"));
        due("no LINK", x.found(0, 10), 0);
        due("no letter of it", x.letter(0, true, 0), BAD);
        due("the NAME has one", x.letter(0, false, 0), 'a');
    }

    /** "else the bytes of its field up to a 0"; "LINK likewise". */
    private static void nameFields() {
        for (int length : new int[] {1, 2, 98, 99, 100}) {
            TarForms x = read(Raw.begin().head(SOFT, Calls.text('n', length)).put(157, Calls.text('l', length)));
            CHECK.due("NAME of " + length, Calls.letters(x, 0, false), Calls.text('n', length));
            CHECK.due("LINK of " + length, Calls.letters(x, 0, true), Calls.text('l', length));
        }
        TarForms x = read(Raw.begin().head(SOFT, "n\0" + Calls.text('n', 98)).put(157, "\0l"));
        CHECK.due("NAME up to a 0", Calls.letters(x, 0, false), "n");
        CHECK.due("LINK up to a 0", Calls.letters(x, 0, true), "");
    }

    /** "with MAGIC ustar and 0, and a FRONT (up to a 0) of one byte or more: that, 47, NAME". */
    private static void fronts() {
        for (int front : new int[] {0, 1, 2, 154, 155}) {
            for (int name : new int[] {1, 99, 100}) {
                String frontText = Calls.text('f', front);
                String nameText = Calls.text('n', name);
                TarForms x = read(Raw.begin().head(FILE, nameText).put(345, frontText).ustar());
                String due = front == 0 ? nameText : frontText + "/" + nameText;
                CHECK.due("FRONT of " + front + ", NAME of " + name, Calls.letters(x, 0, false), due);
                due("bytes", x.found(0, 9), due.length());
            }
        }
        TarForms x = read(Raw.begin().head(FILE, "n").put(345, "\0f").ustar());
        CHECK.due("FRONT begins with a 0", Calls.letters(x, 0, false), "n");
        x = read(Raw.begin().head(FILE, "n").put(345, "f\0f").ustar());
        CHECK.due("FRONT up to a 0", Calls.letters(x, 0, false), "f/n");
    }

    /** Each byte of MAGIC: six count for FRONT, "its first 5 bytes" for a NAME that ends with 47. */
    private static void magic() {
        String whole = "ustar\0" + "00";
        for (int place = 0; place < 8; place++) {
            StringBuilder magic = new StringBuilder(whole);
            magic.setCharAt(place, (char) (magic.charAt(place) ^ 32));
            TarForms x = read(Raw.begin().head(FILE, "n/").put(345, "f").put(257, magic.toString()));
            CHECK.due("NAME, byte " + place + " is another", Calls.letters(x, 0, false), place < 6 ? "n/" : "f/n/");
            due("KIND, byte " + place + " is another", x.found(0, 0), place < 5 ? FOLDER : FILE);
        }
    }

    private static void dueNameless(String what, Raw raw) {
        TarForms x = raw.end().load();
        due(what + ": read", x.read(false), 1);
        due(what + ": FAULT", x.told(0), 11);
        due(what + ": place", x.told(1), 512);
    }

    /** "11 (p): NAME has no bytes". */
    private static void noName() {
        for (int kind : new int[] {0, FILE, HARD, SOFT, FOLDER}) {
            dueNameless("KIND " + kind, Raw.begin().head(FILE, "a").head(kind, ""));
            dueNameless("a 0 first, KIND " + kind, Raw.begin().head(FILE, "a").head(kind, "\0a"));
        }
        dueNameless("no FRONT", Raw.begin().head(FILE, "a").head(FILE, "").ustar());
        dueNameless("a FRONT of LONG", Raw.begin().head(FILE, "a").head(FILE, "").put(345, "f").put(257, "ustar  \0"));
        TarForms x = read(Raw.begin().head(LONG_NAME, "L", "n").head(FILE, ""));
        CHECK.due("told ahead", Calls.letters(x, 0, false), "n");
        x = read(Raw.begin().head(ROWS_FOR_ALL, "g", Raw.row("path", "n")).head(FILE, ""));
        CHECK.due("told for all", Calls.letters(x, 0, false), "n");
    }

    /** "A 48 without MAGIC whose NAME ends with 47 is 53", a 0 too, which counts as 48. */
    private static void foldersByName() {
        String hundred = Calls.text('n', 99) + "/";
        for (int kind : new int[] {0, FILE, HARD, SOFT, FOLDER}) {
            int plain = kind == 0 ? FILE : kind;
            due("n", read(Raw.begin().head(kind, "n")).found(0, 0), plain);
            due("n/n", read(Raw.begin().head(kind, "n/n")).found(0, 0), plain);
            int folder = plain == FILE ? FOLDER : kind;
            due("n/", read(Raw.begin().head(kind, "n/")).found(0, 0), folder);
            due("/", read(Raw.begin().head(kind, "/")).found(0, 0), folder);
            due("47 at 99", read(Raw.begin().head(kind, hundred)).found(0, 0), folder);
            due("with MAGIC", read(Raw.begin().head(kind, "n/").ustar()).found(0, 0), plain);
        }
    }

    private static final String[] KEYS = {"path", "linkpath", "uid", "gid", "size", "mtime"};

    /** "those of 103 for all that come, where 120 tells none": each key by itself. */
    private static void toldOrField() {
        for (int key = 0; key < KEYS.length; key++) {
            for (int next = 0; next < 2; next++) {
                for (int all = 0; all < 2; all++) {
                    Raw raw = Raw.begin();
                    if (all == 1) {
                        raw.head(ROWS_FOR_ALL, "g", Raw.row(KEYS[key], "111"));
                    }
                    if (next == 1) {
                        raw.head(ROWS, "x", Raw.row(KEYS[key], "0"));
                    }
                    raw.head(FILE, "5").put(108, "5").put(116, "5").put(124, "5").put(136, "5").put(157, "5");
                    TarForms x = read(raw.zeros(512));
                    String told = next == 1 ? "0" : all == 1 ? "111" : "5";
                    dueValues("key " + KEYS[key], x, 0, key, told);
                }
            }
        }
    }

    /** One key as told, all others as 5 in their fields. */
    private static void dueValues(String what, TarForms x, int i, int key, String told) {
        String[] got = {
            Calls.letters(x, i, false), Calls.letters(x, i, true), "" + x.found(i, 2), "" + x.found(i, 3),
            "" + x.found(i, 4), "" + x.found(i, 5)
        };
        for (int k = 0; k < got.length; k++) {
            CHECK.due(what + ": " + KEYS[k], got[k], k == key ? told : "5");
        }
        due(what + ": NANOS", x.found(i, 6), 0);
    }

    /** "Those of 120 count for the next ENTRY alone". */
    private static void forTheNextAlone() {
        for (int key = 0; key < KEYS.length; key++) {
            Raw raw = Raw.begin().head(ROWS, "x", Raw.row(KEYS[key], "6"));
            for (int i = 0; i < 2; i++) {
                raw.head(FILE, "5").put(108, "5").put(116, "5").put(124, "5").put(136, "5").put(157, "5").zeros(512);
            }
            TarForms x = read(raw);
            dueValues("the next", x, 0, key, "6");
            dueValues("the one behind it", x, 1, key, "5");
        }
        TarForms x = read(Raw.begin().head(ROWS, "x", Raw.row("mtime", "1.25")).head(FILE, "a").head(FILE, "b"));
        due("NANOS of the next", x.found(0, 6), 250000000);
        due("NANOS of the one behind it", x.found(1, 6), 0);
    }

    /** "the later ROW counts", in one HEAD and in two. */
    private static void laterRow() {
        for (int key = 0; key < KEYS.length; key++) {
            String first = Raw.row(KEYS[key], "7");
            String later = Raw.row(KEYS[key], "0");
            for (int kind : new int[] {ROWS, ROWS_FOR_ALL}) {
                Raw together = Raw.begin().head(kind, "x", first + later);
                Raw apart = Raw.begin().head(kind, "x", first).head(kind, "x", later);
                for (Raw raw : new Raw[] {together, apart}) {
                    raw.head(FILE, "5").put(108, "5").put(116, "5").put(124, "5").put(136, "5").put(157, "5");
                    dueValues("later " + KEYS[key], read(raw.zeros(512)), 0, key, "0");
                }
            }
        }
        String row = Raw.row("mtime", "1.5");
        TarForms x = read(Raw.begin().head(ROWS, "x", row + Raw.row("mtime", "2")).head(FILE, "a"));
        due("TIME of the later", x.found(0, 5), 2);
        due("NANOS of the later", x.found(0, 6), 0);
        x = read(Raw.begin().head(ROWS_FOR_ALL, "g", row).head(ROWS, "x", Raw.row("mtime", "2")).head(FILE, "a"));
        due("NANOS of the next alone", x.found(0, 6), 0);
    }

    // ---- UNSAFE

    /** All rows of 46, 47 and a letter, of 1 up to so many bytes. */
    private static List<String> ways(int most) {
        List<String> all = new ArrayList<>();
        List<String> last = List.of("");
        for (int length = 1; length <= most; length++) {
            List<String> longer = new ArrayList<>();
            for (String way : last) {
                for (String sign : new String[] {".", "/", "a"}) {
                    longer.add(way + sign);
                }
            }
            all.addAll(longer);
            last = longer;
        }
        return all;
    }

    private static boolean hasUp(String way) {
        return List.of(way.split("/", -1)).contains("..");
    }

    private static int dueUnsafe(int kind, String name, String link) {
        int bits = (name.startsWith("/") ? 1 : 0) | (hasUp(name) ? 2 : 0);
        if (kind == HARD || kind == SOFT) {
            bits |= link.startsWith("/") ? 4 : 0;
        }
        boolean isOutside = kind == HARD && hasUp(link) || kind == SOFT && isBelow(name, link);
        return bits | (isOutside ? 8 : 0);
    }

    /** HEIGHT, told once more by the parts themselves. */
    private static boolean isBelow(String name, String link) {
        String[] parts = name.split("/", -1);
        int height = 0;
        for (int i = 0; i < parts.length - 1; i++) {
            height = Math.max(0, height + step(parts[i]));
        }
        boolean isBelow = false;
        for (String part : link.split("/", -1)) {
            height += step(part);
            isBelow |= height < 0;
        }
        return isBelow;
    }

    private static int step(String part) {
        return part.isEmpty() || part.equals(".") ? 0 : part.equals("..") ? -1 : 1;
    }

    private static void dueBits(int kind, String name, String link) {
        TarForms x = read(Raw.begin().head(kind, name).ustar().put(157, link));
        due("UNSAFE of " + kind + " " + name + " to " + link, x.found(0, 11), dueUnsafe(kind, name, link));
    }

    /** "1 NAME begins with 47; 2 a part of NAME (between 47s) is two 46s". */
    private static void unsafeNames() {
        for (String name : ways(6)) {
            dueBits(FILE, name, "");
        }
        for (String name : ways(3)) {
            dueBits(FOLDER, name, "/../..");
            dueBits(0, name, "/../..");
        }
    }

    /** "Of KIND 49: 4 LINK begins with 47, 8 a part of it is two 46s; of KIND 50: 4 likewise; 8: HEIGHT". */
    private static void unsafeLinks() {
        for (String link : ways(6)) {
            dueBits(HARD, "n", link);
            dueBits(SOFT, "a/n", link);
        }
        for (String name : ways(4)) {
            for (String link : new String[] {"", "..", "../..", "a/..", "./..", "/..", "a/../..", "../a/..", "../a"}) {
                dueBits(SOFT, name, link);
            }
        }
    }

    /** As many steps up as there are parts ahead of the last one, and one more. */
    private static void heightOfLongWays() {
        for (int deep : new int[] {0, 1, 2, 10, 30, 49}) {
            String name = "d/".repeat(deep) + "n";
            String up = "../".repeat(Math.min(deep, 32));
            if (deep <= 32) {
                due("as many", read(Raw.begin().head(SOFT, name).put(157, up + "x")).found(0, 11), 0);
                due("one more", read(Raw.begin().head(SOFT, name).put(157, up + "..")).found(0, 11), 8);
            } else {
                due("fewer", read(Raw.begin().head(SOFT, name).put(157, up + "..")).found(0, 11), 0);
            }
        }
        String deep = "d/".repeat(130) + "n";
        TarForms x = read(Raw.begin().head(LONG_NAME, "L", deep).head(SOFT, "").put(157, "../".repeat(33)));
        due("of a NAME of 261", x.found(0, 11), 0);
        String up = "../".repeat(133);
        x = read(Raw.begin().head(LONG_LINK, "L", up).head(SOFT, "d/n"));
        due("of a LINK of 399", x.found(0, 11), 8);
        x = read(Raw.begin().head(LONG_LINK, "L", "../".repeat(130)).head(SOFT, "n"));
        due("of a LINK of 390", x.found(0, 11), 8);
    }
}
