import java.util.ArrayList;
import java.util.Arrays;
import java.util.List;
import java.util.Random;

/** All promises: random calls (from a fixed seed), each answered by the class and by Reference. */
public final class ReferenceTest {
    private static final int OBJECTS = 40000;
    // No object gets more calls than the document allows; the last look at its state takes 128 of them.
    private static final int CALLS = 512, LOOK = 128, BYTES = 160, INVOKE = 4;
    private static final long[] NUMBERS = {0, 1, 2, 3, 7, 44, 48, -1, 255, Integer.MIN_VALUE, Integer.MAX_VALUE, Long.MIN_VALUE, 1L << 32, -3};

    private final Random random;
    private final int run;
    private final WasmSandbox x = new WasmSandbox();
    private final Reference y = new Reference();
    private int left = CALLS;
    private static final int[] LOADS = new int[4], OUTCOMES = new int[10];

    private ReferenceTest(int run) {
        this.run = run;
        random = new Random(run * 7919L + 1);
    }

    public static void main(String[] args) {
        int first = args.length > 0 ? Integer.parseInt(args[0]) : 1;
        int last = args.length > 1 ? Integer.parseInt(args[1]) : OBJECTS;
        for (int run = first; run <= last; run++) {
            new ReferenceTest(run).calls();
        }
        System.out.println("loads by outcome " + Arrays.toString(LOADS) + ", runs by outcome " + Arrays.toString(OUTCOMES));
        for (int count : LOADS) {
            Kit.due("each outcome of load was seen", count > 0, true);
        }
        for (int count : OUTCOMES) {
            Kit.due("each outcome of invoke was seen", count > 0, true);
        }
        Kit.end();
    }

    /** What one call answered. */
    private void due(String what, long got, long want, long... arguments) {
        left--;
        if (got != want) {
            Kit.due("run " + run + ": " + what + Arrays.toString(arguments) + " with the bytes " + y.bytes, got, want);
        }
    }

    private void calls() {
        while (left >= LOOK + BYTES) {
            feed();
            int slot = random.nextInt(2);
            bytes(slot);
            load(slot);
            // The bytes stay, so they may become the module of the other slot as well.
            if (random.nextInt(5) == 0) {
                load(1 - slot);
            }
            for (int n = random.nextInt(14); n > 0 && left >= LOOK + INVOKE; n--) {
                invoke();
            }
        }
        while (left >= LOOK + INVOKE) {
            invoke();
        }
        state();
        Kit.due("calls that are left", left >= 0, true);
    }

    private void load(int slot) {
        int outcome = y.load(slot);
        due("load", x.load(slot), outcome, slot);
        due("place", x.place(), y.place);
        LOADS[outcome]++;
    }

    private void feed() {
        for (int n = random.nextInt(6); n > 0; n--) {
            int v = random.nextInt(100);
            boolean want = y.waiting.size() < 8;
            if (want) {
                y.waiting.add(v);
            }
            due("feed", x.feed(v) ? 1 : 0, want ? 1 : 0);
        }
    }

    private void bytes(int slot) {
        List<int[]> importTypes = new ArrayList<>();
        List<Integer> whats = new ArrayList<>();
        for (int n = random.nextInt(4); n > 0; n--) {
            int what = random.nextInt(3);
            if (what < 2) {
                importTypes.add(what == 0 ? new int[] {1, 1, 0} : new int[] {0, 1});
                whats.add(16 + what);
            } else if (slot == 1 && y.slots[0] != null) {
                int f = random.nextInt(y.slots[0].size() + (random.nextInt(9) == 0 ? 1 : 0));
                Reference.Type t = y.slots[0].typeOf(f);
                int[] type = t == null ? new int[] {0, 0} : Kit.join(Kit.b(t.parameters().size()),
                    t.parameters().stream().mapToInt(Integer::intValue).toArray(), Kit.b(t.result()));
                importTypes.add(type);
                whats.add(f);
            }
        }
        if (!whats.isEmpty() && random.nextInt(8) == 0) {
            misfit(importTypes, whats);
        }
        boolean loose = random.nextInt(4) == 0;
        int[] module = new Generator(random, loose).module(importTypes, whats);
        int[] spoilt = random.nextInt(3) == 0 ? spoil(module) : module;
        due("clear", x.clear(), y.bytes.size());
        y.bytes.clear();
        // Some are longer than an object holds.
        for (int b : Arrays.copyOf(spoilt, Math.min(spoilt.length, 148))) {
            boolean want = y.bytes.size() < 140;
            if (want) {
                y.bytes.add(b);
            }
            due("put", x.put(b) ? 1 : 0, want ? 1 : 0);
        }
    }

    /** One import gets another type or names something else; at times it fits even so. */
    private void misfit(List<int[]> importTypes, List<Integer> whats) {
        int i = random.nextInt(whats.size());
        if (random.nextInt(2) == 0) {
            int[] what = {0, 1, 2, 3, 4, 5, 6, 7, 15, 16, 17, 18, 255};
            whats.set(i, what[random.nextInt(what.length)]);
        } else {
            int[][] types = {{0, 0}, {0, 1}, {0, 2}, {1, 1, 0}, {1, 2, 0}, {1, 1, 1}, {2, 1, 1, 0}};
            importTypes.set(i, types[random.nextInt(types.length)]);
        }
    }

    private int[] spoil(int[] module) {
        int[] copy = module.clone();
        for (int n = 1 + random.nextInt(2); n > 0; n--) {
            int i = random.nextInt(copy.length);
            switch (random.nextInt(4)) {
                case 0 -> copy = Arrays.copyOf(copy, i + 1);
                case 1 -> copy[i] = random.nextInt(256);
                case 2 -> copy[i] = random.nextInt(10);
                default -> copy[i] = Math.max(0, Math.min(255, copy[i] + random.nextInt(5) - 2));
            }
        }
        return copy;
    }

    private void invoke() {
        int slot = y.slots[1] == null ? 0 : random.nextInt(2);
        int f = random.nextInt(9) - 1;
        Reference.Module m = y.slots[slot];
        // Most calls are of a function that is there.
        if (m != null && m.size() > 0 && random.nextInt(8) > 0) {
            f = m.size() - 1 - random.nextInt(m.size());
        }
        long a = NUMBERS[random.nextInt(NUMBERS.length)];
        long b = NUMBERS[random.nextInt(NUMBERS.length)];
        long c = random.nextLong();
        int outcome = y.invoke(slot, f, a, b, c);
        due("invoke", x.invoke(slot, f, a, b, c), outcome, slot, f, a, b, c);
        due("result behind invoke", x.result(), y.result, slot, f, a, b, c);
        due("trappedAt behind invoke", x.trappedAt(), y.trappedAt, slot, f, a, b, c);
        due("used behind invoke", x.used(), y.used, slot, f, a, b, c);
        if (outcome >= 0) {
            OUTCOMES[outcome]++;
        }
    }

    private void state() {
        for (int slot = 0; slot < 2; slot++) {
            Reference.Module m = y.slots[slot];
            for (int i = -1; i <= 48; i++) {
                boolean there = m != null && m.memory != null && i >= 0 && i < 48;
                due("memory", x.memory(slot, i), there ? m.memory[i] : -1, slot, i);
            }
            for (int g = -1; g <= 3; g++) {
                boolean there = m != null && g >= 0 && g < m.globals.size();
                due("global", x.global(slot, g), there ? m.globals.get(g) : 0, slot, g);
            }
        }
        due("printed", x.printed(-1), y.prints.size(), -1);
        for (int k = 0; k <= 16; k++) {
            boolean there = k < 16 && k < y.prints.size();
            due("printed", x.printed(k), there ? y.prints.get(y.prints.size() - 1 - k) : 0, k);
        }
    }
}
