import java.util.Random;

/** No call throws, whatever comes; what is refused changes nothing; the same calls answer the same. */
public final class AnyCallsTest {
    private static final Check CHECK = new Check();
    private static final int[] EDGES = {
        0, 1, -1, 2, 3, 4, 5, 7, 8, 12, 48, 49, 50, 53, 255, 256, 400, 511, 512, 513, 1024, 4000, 4001,
        32767, 32768, Integer.MAX_VALUE, Integer.MIN_VALUE
    };
    private static final int[] FIELDS = {0, 100, 107, 108, 116, 124, 133, 134, 136, 148, 156, 157, 257, 262, 345};
    private static final int[] MASKS = {1, 4, 7, 8, 16, 40, 52, 55, 72, 87, 120, 123, 124, 128, 176, 207, 255};

    public static void main(String[] args) {
        for (int seed = 0; seed < 8000; seed++) {
            CHECK.due("run " + seed + " once more", run(seed), run(seed));
        }
        CHECK.close();
    }

    private static long run(int seed) {
        Random random = new Random(seed);
        TarForms x = new TarForms();
        long mixed = 0;
        // As many steps as stay within 512 calls, those that look at the state counted, too.
        for (int i = 0; i < 25; i++) {
            String before = state(x);
            int call = random.nextInt(20);
            long answer = answer(x, call, random);
            mixed = mixed * 31 + answer;
            // read() always changes what was FOUND, and its answer is no refusal.
            if (answer < 0 && call != 11) {
                CHECK.due("state after a refusal of call " + call, state(x), before);
            }
        }
        return mixed;
    }

    private static String state(TarForms x) {
        StringBuilder out = new StringBuilder();
        for (int what : new int[] {0, 2, 4, 5, 6}) {
            out.append(x.told(what)).append(' ');
        }
        return out.toString();
    }

    private static int any(Random random) {
        int pick = random.nextInt(4);
        return pick == 0 ? random.nextInt() : pick == 1 ? random.nextInt(5000) : EDGES[random.nextInt(EDGES.length)];
    }

    private static long answer(TarForms x, int call, Random random) {
        switch (call) {
            case 0: return x.feed(any(random), random.nextInt(), 0x2E2E2F2E, random.nextInt());
            case 1: return x.cut(random.nextBoolean() ? any(random) : x.told(6) / 2);
            case 2: return x.name(random.nextInt(3) == 0);
            case 3: return x.number(random.nextInt(7) - 1, random.nextLong() >> random.nextInt(64));
            case 4: return x.entry(any(random), any(random), any(random));
            case 5: return random.nextInt(20) == 0 ? x.clear() : x.best();
            case 6: return x.write(random.nextInt(6) - 1, random.nextBoolean());
            case 7: return random.nextInt(10) == 0 ? x.trim(any(random)) : x.octet(any(random));
            case 8: return x.poke(any(random), any(random));
            case 9: return x.sum(random.nextBoolean() ? any(random) : 512 * random.nextInt(20));
            case 10: return x.told(any(random));
            case 11: return x.read(random.nextBoolean());
            case 12: return x.found(any(random), any(random));
            case 13: return x.letter(random.nextInt(3), random.nextBoolean(), any(random));
            case 14: return pokeHead(x, random);
            case 15: return x.found(random.nextInt(3), random.nextInt(12));
            default: return longEntry(x, random);
        }
    }

    private static long pokeHead(TarForms x, Random random) {
        int head = 512 * random.nextInt(8);
        int field = FIELDS[random.nextInt(FIELDS.length)];
        x.poke(head + field, MASKS[random.nextInt(MASKS.length)]);
        if (random.nextInt(4) > 0) {
            x.sum(head);
        }
        return x.read(random.nextBoolean());
    }

    private static long longEntry(TarForms x, Random random) {
        x.cut(0);
        x.clear();
        Calls.name(x, Calls.text('a', 1 + random.nextInt(200)) + (random.nextBoolean() ? "/.." : "/x"));
        boolean isLink = random.nextBoolean();
        if (isLink) {
            Calls.link(x, "../" + Calls.text('b', random.nextInt(200)));
        }
        x.number(1 + random.nextInt(3), random.nextLong() >>> 9 + random.nextInt(50));
        x.number(4, random.nextBoolean() ? 0 : random.nextInt(1000000000));
        x.entry(isLink ? 49 + random.nextInt(2) : 48, isLink ? 0 : random.nextInt(2000), random.nextInt());
        x.write(2 + random.nextInt(2), false);
        return Math.abs((long) x.read(false));
    }
}
