import java.util.List;
import java.util.Random;

/** No call throws or fails to end, whatever its arguments and the calls before it, also behind the 512th. */
public final class AnyCallTest {
    private static final int OBJECTS = 300, CALLS = 3000;
    private static final int[] EDGES = {-1, 0, 1, 2, 3, 7, 8, 15, 16, 47, 48, 139, 140, 255, 256, Integer.MIN_VALUE, Integer.MAX_VALUE};

    private final Random random;
    private final WasmSandbox x = new WasmSandbox();

    private AnyCallTest(int run) {
        random = new Random(run);
    }

    public static void main(String[] args) {
        for (int run = 0; run < OBJECTS; run++) {
            AnyCallTest test = new AnyCallTest(run);
            for (int i = 0; i < CALLS; i++) {
                test.call();
            }
        }
    }

    private int number() {
        int way = random.nextInt(4);
        return way == 0 ? random.nextInt() : way == 1 ? random.nextInt(8) : EDGES[random.nextInt(EDGES.length)];
    }

    private void call() {
        switch (random.nextInt(12)) {
            case 0 -> x.put(number());
            case 1 -> module();
            case 2 -> x.load(number());
            case 3 -> x.load(random.nextInt(2));
            case 4 -> x.place();
            case 5, 6 -> invoke(random.nextInt(2), random.nextInt(7));
            case 7 -> invoke(number(), number());
            case 8 -> x.memory(number(), number());
            case 9 -> x.global(number(), number());
            case 10 -> x.feed(number());
            default -> x.printed(number());
        }
    }

    private void invoke(int slot, int f) {
        x.invoke(slot, f, number(), random.nextLong(), number());
        x.result();
        x.trappedAt();
        x.used();
    }

    /** A module as the generator makes it, or with a byte changed, or bytes without a sense. */
    private void module() {
        x.clear();
        int[] bytes = new Generator(random, random.nextBoolean()).module(List.of(), List.of());
        int changed = random.nextInt(4) == 0 ? random.nextInt(bytes.length) : -1;
        boolean noSense = random.nextInt(8) == 0;
        for (int i = 0; i < bytes.length; i++) {
            x.put(noSense ? random.nextInt(67) : i == changed ? random.nextInt(256) : bytes[i]);
        }
        x.load(random.nextInt(2));
    }
}
