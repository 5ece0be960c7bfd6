import java.util.function.Supplier;

/**
 * All that calls can show of an object, as one text. Looking changes things (THE DRAFT has to
 * become an ENTRY to be seen), so each look is taken at a new object of the same maker, which may
 * use up to 180 calls itself.
 */
public final class Shown {
    private Shown() {
    }

    public static String of(Supplier<TarForms> maker) {
        return "told " + told(maker.get()) + "; found" + found(maker) + "; tape " + tape(maker.get()) + "; draft "
            + draft(maker.get()) + "; entries " + entries(maker) + "; archive " + Calls.archive(maker);
    }

    private static String told(TarForms x) {
        StringBuilder out = new StringBuilder();
        for (int what = 0; what <= 6; what++) {
            out.append(x.told(what)).append(' ');
        }
        return out.append(x.best()).toString();
    }

    private static String found(Supplier<TarForms> maker) {
        StringBuilder out = new StringBuilder();
        int count = maker.get().told(2);
        for (int i = 0; i < count; i++) {
            out.append(' ').append(found(maker.get(), i));
        }
        return out.toString();
    }

    private static String found(TarForms x, int i) {
        StringBuilder out = new StringBuilder();
        for (int what = 0; what <= 11; what++) {
            out.append(x.found(i, what)).append(' ');
        }
        return out + Calls.letters(x, i, false) + " -> " + Calls.letters(x, i, true);
    }

    /** As many bytes of THE TAPE as calls are left for; a 0 among them hides it and what follows. */
    private static String tape(TarForms x) {
        int n = x.told(6);
        x.clear();
        x.cut(Math.min(n, 300));
        while (x.told(6) > 0 && x.name(false) < 0) {
            x.cut(x.told(6) / 2);
        }
        x.entry(48, 0, 0);
        x.write(2, false);
        x.read(false);
        return n + " " + Calls.letters(x, 0, false);
    }

    private static String draft(TarForms x) {
        int before = x.told(5);
        int asLink = x.entry(50, 0, 0);
        int asFile = asLink < 0 ? x.entry(48, 1, 7) : 0;
        x.trim(0);
        x.write(2, false);
        x.read(false);
        return asLink + " " + asFile + " " + (x.told(5) > before ? found(x, before) : "none");
    }

    private static String entries(Supplier<TarForms> maker) {
        return Calls.archive(() -> {
            TarForms x = maker.get();
            x.write(2, false);
            return x;
        });
    }
}
