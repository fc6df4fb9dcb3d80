/** Promises 10 to 13: memory, global, feed, printed. */
public final class HostTest {
    private static final int[] NONE = {};
    // Imports print (0) and input (1); function 2 prints its argument, 3 prints an input and gives it.
    private static final int[] HOST = Kit.join(Kit.b(2, 1, 1, 0, 0, 1, 1, 2, 0, 16, 1, 17), Kit.list(
        Kit.function(0, Kit.GET, 0, Kit.CALL, 0), Kit.join(Kit.b(1, 1, 1), Kit.b(Kit.CALL, 1, Kit.TEE, 0, Kit.CALL, 0, Kit.GET, 0, Kit.END)),
        Kit.function(0, Kit.GET, 0, Kit.CALL, 0, Kit.CALL, 1, Kit.CALL, 0, Kit.TRAP)), Kit.NOTHING_BEHIND);

    public static void main(String[] args) {
        memories();
        globals();
        inputs();
        prints();
        Kit.end();
    }

    private static void memories() {
        WasmSandbox x = new WasmSandbox();
        Kit.loads("no memory", x, 0, WasmSandbox.OK, -1, Kit.single(NONE, 0));
        Kit.due("no memory", x.memory(0, 0), -1);
        int[] over = Kit.b(0, 0, 0, 0, 0, 1, 2, 40, 8, 1, 2, 3, 4, 5, 6, 7, 255, 38, 4, 9, 0, 8, 7);
        Kit.loads("memory", x, 0, WasmSandbox.OK, -1, over);
        int[] want = {9, 0, 8, 7, 3, 4, 5, 6, 7, 255};
        for (int i = 0; i < 48; i++) {
            Kit.due("byte " + i, x.memory(0, i), i < 38 ? 0 : want[i - 38]);
        }
        for (int i : new int[] {-1, 48, Integer.MIN_VALUE, Integer.MAX_VALUE}) {
            Kit.due("byte " + i, x.memory(0, i), -1);
        }
        for (int slot : new int[] {-1, 1, 2, Integer.MIN_VALUE, Integer.MAX_VALUE}) {
            Kit.due("slot " + slot, x.memory(slot, 0), -1);
        }
        int[] store = Kit.singleWithMemory(Kit.b(1, 1), 0, Kit.GET, 0, Kit.GET, 1, Kit.STORE8, 0, Kit.TRAP);
        Kit.loads("store", x, 0, WasmSandbox.OK, -1, store);
        Kit.traps("store", x, 0, 0, WasmSandbox.UNREACHABLE, 15, 20, -1);
        Kit.due("a trap takes nothing back", x.memory(0, 20), 255);
        Kit.due("it stays for the next run", x.invoke(0, 0, 21, 3, 0), WasmSandbox.UNREACHABLE);
        Kit.due("byte 20", x.memory(0, 20), 255);
        Kit.due("byte 21", x.memory(0, 21), 3);
        Kit.loads("the same into slot 1", x, 1, WasmSandbox.OK, -1, store);
        Kit.due("slot 0 keeps its own", x.memory(0, 20), 255);
        Kit.due("slot 1 is fresh", x.memory(1, 20), 0);
        Kit.due("slot 1 has DATA", x.memory(1, 7), 8);
        Kit.traps("slot 1's own", x, 1, 0, WasmSandbox.UNREACHABLE, 1015, 5, 100);
        Kit.due("slot 1's byte", x.memory(1, 5), 100);
        Kit.due("slot 0's byte", x.memory(0, 5), 6);
        Kit.due("load again", x.load(0), WasmSandbox.OK);
        Kit.due("fresh memory", x.memory(0, 20), 0);
        Kit.due("slot 1 is empty", x.memory(1, 5), -1);
    }

    private static void globals() {
        WasmSandbox x = new WasmSandbox();
        int[] module = Kit.join(Kit.b(1, 2, 1, 2, 0, 0), Kit.list(Kit.function(0, Kit.GET, 0, Kit.GSET, 1, Kit.GET, 1, Kit.GSET, 2, Kit.TRAP)),
            Kit.b(3, 1, 0, 127, 1, 1, 5, 2, 1, 255, 255, 255, 255, 127), Kit.b(0, 0));
        Kit.loads("globals", x, 0, WasmSandbox.OK, -1, module);
        Kit.due("global 0", x.global(0, 0), -1);
        Kit.due("global 1", x.global(0, 1), 5);
        Kit.due("global 2", x.global(0, 2), -1);
        for (int g : new int[] {-1, 3, Integer.MIN_VALUE, Integer.MAX_VALUE}) {
            Kit.due("global " + g, x.global(0, g), 0);
        }
        for (int slot : new int[] {-1, 1, 2, Integer.MIN_VALUE, Integer.MAX_VALUE}) {
            Kit.due("slot " + slot, x.global(slot, 1), 0);
        }
        Kit.traps("set", x, 0, 0, WasmSandbox.UNREACHABLE, 17, 1L << 31, Long.MIN_VALUE);
        Kit.due("an int that was set", x.global(0, 1), Integer.MIN_VALUE);
        Kit.due("a long that was set", x.global(0, 2), Long.MIN_VALUE);
        Kit.due("the same into slot 1", x.load(1), WasmSandbox.OK);
        Kit.due("slot 1 is fresh", x.global(1, 1), 5);
        Kit.due("slot 0 keeps its own", x.global(0, 1), Integer.MIN_VALUE);
        Kit.due("the same into slot 0", x.load(0), WasmSandbox.OK);
        Kit.due("slot 0 is fresh", x.global(0, 1), 5);
        Kit.due("slot 1 is empty", x.global(1, 1), 0);
        Kit.loads("fewer globals", x, 0, WasmSandbox.OK, -1, 0, 0, 0, 1, 1, 0, 9, 0, 0);
        Kit.due("the one", x.global(0, 0), 9);
        Kit.due("no second", x.global(0, 1), 0);
    }

    private static void inputs() {
        WasmSandbox x = Kit.loaded("host", HOST);
        Kit.gives("none waits", x, 0, 3, -1);
        int[] all = {Integer.MIN_VALUE, -1, 0, 5, 255, 256, 7, Integer.MAX_VALUE};
        for (int v : all) {
            Kit.due("feed", x.feed(v), true);
        }
        Kit.due("feed of a ninth", x.feed(99), false);
        Kit.gives("the first", x, 0, 3, all[0]);
        Kit.due("feed behind one taken", x.feed(70), true);
        Kit.due("feed of a ninth again", x.feed(99), false);
        for (int i = 1; i < 8; i++) {
            Kit.gives("input " + i, x, 0, 3, all[i]);
        }
        Kit.due("the slots are loaded anew", x.load(0), WasmSandbox.OK);
        Kit.due("feed again", x.feed(71), true);
        Kit.traps("an input before a trap", x, 0, 4, WasmSandbox.UNREACHABLE, 42, 1);
        Kit.due("it was taken", x.printed(0), 70);
        Kit.gives("the next", x, 0, 3, 71);
        Kit.gives("none waits again", x, 0, 3, -1);
        for (int i = 0; i < 20; i++) {
            Kit.due("feed of one", x.feed(i), true);
            Kit.gives("one", x, 0, 3, i);
        }
    }

    private static void prints() {
        WasmSandbox x = Kit.loaded("host", HOST);
        for (int n = 1; n <= 40; n++) {
            Kit.gives("print", x, 0, 2, 0, n * 1000003L * 4096);
            Kit.due("how many", x.printed(-1), n);
            Kit.due("the latest of " + n, x.printed(0), n * 1000003 * 4096);
            Kit.due("the 16th of " + n, x.printed(15), n < 16 ? 0 : (n - 15) * 1000003 * 4096);
        }
        for (int k : new int[] {-2, 16, 39, Integer.MIN_VALUE, Integer.MAX_VALUE}) {
            Kit.due("printed(" + k + ")", x.printed(k), 0);
        }
        Kit.traps("a print before a trap stays", x, 0, 4, WasmSandbox.UNREACHABLE, 42, 8);
        Kit.due("how many behind it", x.printed(-1), 42);
        Kit.due("the input that none gave", x.printed(0), -1);
        Kit.due("the argument", x.printed(1), 8);
        Kit.due("load", x.load(0), WasmSandbox.OK);
        Kit.due("prints stay behind a load", x.printed(-1), 42);
    }
}
