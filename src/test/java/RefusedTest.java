import java.util.function.Supplier;
import java.util.function.ToLongFunction;

/**
 * "What is refused changes nothing": every refusal of every call, at objects that are empty, in
 * use, full, and broken off. All that can be seen of the object is compared, not its counts alone.
 */
public final class RefusedTest {
    private static final Check CHECK = new Check();
    private static final int BAD = -1, NOT = -2, FULL = -3;
    private static final long NONE = -9000000000000000000L;
    private static final int MIN = Integer.MIN_VALUE, MAX = Integer.MAX_VALUE;

    private final String state;
    private final Supplier<TarForms> maker;
    private final String shown;

    private RefusedTest(String state, Supplier<TarForms> maker) {
        this.state = state;
        this.maker = maker;
        this.shown = Shown.of(maker);
    }

    public static void main(String[] args) {
        RefusedTest[] all = {
            new RefusedTest("empty", TarForms::new), new RefusedTest("in use", RefusedTest::inUse),
            new RefusedTest("full", RefusedTest::full), new RefusedTest("broken off", RefusedTest::brokenOff)
        };
        for (RefusedTest one : all) {
            one.cutAndTrim();
            one.number();
            one.badEntries();
            one.badFamilies();
            one.pokeAndOctet();
            one.sum();
            one.looks();
        }
        all[0].toldOf(0, 0, 0, 0, 0);
        all[1].toldOf(0, 5, 7680, 3, 4);
        all[2].toldOf(0, 40, 32768, 8, 512);
        all[3].toldOf(3, 1, 1535, 1, 8);
        ofEmpty(all[0]);
        ofInUse(all[1]);
        ofFull(all[2]);
        ofBrokenOff(all[3]);
        CHECK.close();
    }

    // ---- the objects

    /** Three ENTRIES, a DRAFT with all it can have, two archives, five that were FOUND. */
    private static TarForms inUse() {
        TarForms x = new TarForms();
        Calls.file(x, "a.txt", 700, 7);
        Calls.name(x, "dir");
        x.number(0, 493);
        x.entry(53, 0, 0);
        x.write(1, false);
        x.number(1, 1L << 55);
        x.number(3, -2);
        x.number(4, 500000000);
        Calls.linkEntry(x, 50, "dir/" + Calls.text('n', 120), "../../up");
        x.write(2, true);
        x.read(true);
        x.poke(0, 1);
        x.number(0, 1);
        x.number(1, 2);
        x.number(2, 3);
        x.number(3, 4);
        x.number(4, 5);
        Calls.name(x, "draft");
        Calls.link(x, "drawn");
        Calls.tape(x, "tape");
        return x;
    }

    /** 512 bytes of THE TAPE, 8 ENTRIES, 32768 bytes of THE ARCHIVE, 40 that were FOUND. */
    private static TarForms full() {
        TarForms x = new TarForms();
        x.write(0, true);
        x.write(0, true);
        for (int i = 0; i < 8; i++) {
            if (i == 5) {
                x.number(4, 1);
            }
            Calls.file(x, "f" + i, 0, 0);
        }
        x.write(2, true);
        x.clear();
        for (int i = 0; i < 8; i++) {
            Calls.file(x, "g" + i, 0, 0);
        }
        for (int i = 0; i < 4; i++) {
            x.write(1, true);
        }
        x.clear();
        for (int i = 0; i < 4; i++) {
            x.write(0, true);
        }
        x.read(true);
        for (int i = 0; i < 8; i++) {
            x.number(4, i == 6 ? 1 : 0);
            Calls.file(x, "h" + i, 4000, i);
        }
        Calls.name(x, "ninth");
        for (int i = 0; i < 32; i++) {
            x.feed(0x61626364, 0x65666768, 0x696A6B6C, -1);
        }
        return x;
    }

    /** 1535 bytes of THE ARCHIVE, a DRAFT with a NAME alone, a 0 on THE TAPE, a FAULT. */
    private static TarForms brokenOff() {
        TarForms x = new TarForms();
        x.number(1, 2097152);
        Calls.linkEntry(x, 49, "first", "second");
        x.write(3, false);
        x.trim(1535);
        x.read(false);
        Calls.name(x, "draft");
        Calls.tape(x, "tape\0end");
        return x;
    }

    /** That the objects are what their names say. */
    private void toldOf(int fault, int found, int bytes, int entries, int onTape) {
        int[] due = {fault, found, bytes, entries, onTape};
        int[] what = {0, 2, 4, 5, 6};
        for (int i = 0; i < due.length; i++) {
            CHECK.due(state + ": told(" + what[i] + ")", maker.get().told(what[i]), due[i]);
        }
    }

    // ---- what all of them refuse

    private void refuses(String call, long answer, ToLongFunction<TarForms> f) {
        String what = state + ": " + call;
        CHECK.due(what, f.applyAsLong(maker.get()), answer);
        String then = Shown.of(() -> {
            TarForms x = maker.get();
            f.applyAsLong(x);
            return x;
        });
        CHECK.isTrue(what + " changes nothing", then.equals(shown));
    }

    private void cutAndTrim() {
        int bytes = maker.get().told(4);
        int onTape = maker.get().told(6);
        for (int n : new int[] {-1, MIN, MAX}) {
            refuses("cut(" + n + ")", BAD, x -> x.cut(n));
            refuses("trim(" + n + ")", BAD, x -> x.trim(n));
        }
        refuses("cut of one more", BAD, x -> x.cut(onTape + 1));
        refuses("trim of one more", BAD, x -> x.trim(bytes + 1));
    }

    private void number() {
        long[] least = {0, 0, 0, -(1L << 40), 0};
        long[] most = {4095, 1L << 55, 1L << 55, 1L << 50, 999999999};
        for (int i = 0; i < 5; i++) {
            int what = i;
            refuses("number below " + i, BAD, x -> x.number(what, least[what] - 1));
            refuses("number above " + i, BAD, x -> x.number(what, most[what] + 1));
        }
        for (int what : new int[] {-1, 5, MIN, MAX}) {
            refuses("number(" + what + ")", BAD, x -> x.number(what, 0));
        }
    }

    private void badEntries() {
        for (int kind : new int[] {0, 47, 51, 52, 54, 120}) {
            refuses("entry of KIND " + kind, BAD, x -> x.entry(kind, 0, 0));
        }
        for (int size : new int[] {-1, 4001, MIN, MAX}) {
            refuses("file of " + size, BAD, x -> x.entry(48, size, 0));
        }
        for (int kind : new int[] {49, 50, 53}) {
            refuses(kind + " of 1 byte", BAD, x -> x.entry(kind, 1, 0));
            refuses(kind + " of -1 byte", BAD, x -> x.entry(kind, -1, 0));
        }
    }

    private void badFamilies() {
        for (int family : new int[] {-1, 4, MIN, MAX}) {
            refuses("write by " + family, BAD, x -> x.write(family, false));
            refuses("write behind by " + family, BAD, x -> x.write(family, true));
        }
    }

    private void pokeAndOctet() {
        int bytes = maker.get().told(4);
        for (int place : new int[] {-1, bytes, MIN, MAX}) {
            refuses("poke at " + place, BAD, x -> x.poke(place, 1));
            refuses("octet at " + place, BAD, x -> x.octet(place));
        }
        for (int mask : new int[] {-1, 256, MIN, MAX}) {
            refuses("poke by " + mask, BAD, x -> x.poke(0, mask));
            refuses("poke of the last by " + mask, BAD, x -> x.poke(bytes - 1, mask));
        }
    }

    private void sum() {
        int behind = maker.get().told(4) / 512 * 512;
        for (int place : new int[] {-512, -1, 1, 511, 513, behind, behind + 512, MIN, MAX - 511}) {
            refuses("sum at " + place, BAD, x -> x.sum(place));
        }
    }

    private void looks() {
        int count = maker.get().told(2);
        for (int what : new int[] {-1, 7, MIN, MAX}) {
            refuses("told(" + what + ")", BAD, x -> x.told(what));
        }
        for (int i : new int[] {-1, count, MIN, MAX}) {
            refuses("found(" + i + ", 0)", NONE, x -> x.found(i, 0));
            refuses("letter(" + i + ", false, 0)", BAD, x -> x.letter(i, false, 0));
        }
        for (int what : new int[] {-1, 12, MIN, MAX}) {
            refuses("found(0, " + what + ")", NONE, x -> x.found(0, what));
        }
        for (int k : new int[] {-1, 400, MIN, MAX}) {
            refuses("letter(0, false, " + k + ")", BAD, x -> x.letter(0, false, k));
            refuses("letter(0, true, " + k + ")", BAD, x -> x.letter(0, true, k));
        }
    }

    // ---- what each of them refuses

    private static void ofEmpty(RefusedTest empty) {
        empty.refuses("name of none", NOT, x -> x.name(false));
        empty.refuses("link of none", NOT, x -> x.name(true));
        for (int kind : new int[] {48, 49, 50, 53}) {
            empty.refuses("entry without NAME", NOT, x -> x.entry(kind, 0, 0));
        }
    }

    private static void ofInUse(RefusedTest inUse) {
        inUse.refuses("file with LINK", NOT, x -> x.entry(48, 1, 1));
        inUse.refuses("folder with LINK", NOT, x -> x.entry(53, 0, 0));
        inUse.refuses("a folder is not OF 0", -11, x -> x.write(0, false));
        inUse.refuses("a folder is not OF 0, behind", -11, x -> x.write(0, true));
        inUse.refuses("a huge UID is not OF 1", -12, x -> x.write(1, false));
        inUse.refuses("NANOS are not OF 3", -12, x -> x.write(3, true));
    }

    private static void ofFull(RefusedTest full) {
        full.refuses("feed", FULL, x -> x.feed(0x7A7A7A7A, 1, 1, 1));
        full.refuses("name of 512", NOT, x -> x.name(false));
        full.refuses("link of 512", NOT, x -> x.name(true));
        full.refuses("a ninth file", FULL, x -> x.entry(48, 0, 0));
        full.refuses("a ninth folder", FULL, x -> x.entry(53, 0, 0));
        full.refuses("a ninth link without LINK", NOT, x -> x.entry(49, 0, 0));
        full.refuses("NANOS", -16, x -> x.write(0, false));
        full.refuses("too many in place", FULL, x -> x.write(2, false));
        full.refuses("too many behind", FULL, x -> x.write(2, true));
    }

    private static void ofBrokenOff(RefusedTest brokenOff) {
        brokenOff.refuses("name with a 0", NOT, x -> x.name(false));
        brokenOff.refuses("link with a 0", NOT, x -> x.name(true));
        brokenOff.refuses("49 without LINK", NOT, x -> x.entry(49, 0, 0));
        brokenOff.refuses("50 without LINK", NOT, x -> x.entry(50, 0, 0));
        brokenOff.refuses("behind no whole BLOCKS by 2", NOT, x -> x.write(2, true));
        brokenOff.refuses("behind no whole BLOCKS by 3", NOT, x -> x.write(3, true));
        brokenOff.refuses("UID is not OF 0", -10, x -> x.write(0, true));
        brokenOff.refuses("UID is not OF 1", -10, x -> x.write(1, false));
    }
}
