/** Promises 1 to 3: a new object, put, clear. */
public final class BytesTest {
    public static void main(String[] args) {
        newObject();
        puts();
        clears();
        Kit.end();
    }

    private static void newObject() {
        WasmSandbox x = new WasmSandbox();
        Kit.due("new: clear", x.clear(), 0);
        Kit.due("new: place", x.place(), -1);
        for (int slot = -1; slot <= 2; slot++) {
            Kit.due("new: invoke", x.invoke(slot, 0, 1, 2, 3), WasmSandbox.BAD);
            Kit.due("new: memory", x.memory(slot, 0), -1);
            Kit.due("new: global", x.global(slot, 0), 0);
        }
        Kit.due("new: result", x.result(), 0);
        Kit.due("new: trappedAt", x.trappedAt(), -1);
        Kit.due("new: used", x.used(), 0);
        Kit.due("new: printed(-1)", x.printed(-1), 0);
        Kit.due("new: printed(0)", x.printed(0), 0);
        Kit.due("new: load", x.load(0), WasmSandbox.MALFORMED);
        Kit.due("new: place of no bytes", x.place(), 0);
        int[] input = Kit.join(Kit.b(1, 0, 1, 1, 1, 0, 17, 1), Kit.function(0, Kit.CALL, 0), Kit.NOTHING_BEHIND);
        Kit.loads("new: input", x, 0, WasmSandbox.OK, -1, input);
        Kit.gives("new: no input waits", x, 0, 1, -1);
    }

    private static void puts() {
        WasmSandbox x = new WasmSandbox();
        Kit.due("put(-1)", x.put(-1), false);
        Kit.due("put(256)", x.put(256), false);
        Kit.due("put(least)", x.put(Integer.MIN_VALUE), false);
        Kit.due("put(greatest)", x.put(Integer.MAX_VALUE), false);
        for (int i = 0; i < 140; i++) {
            Kit.due("put " + i, x.put(i == 0 ? 0 : i == 1 ? 255 : i), true);
        }
        Kit.due("put of the 141st", x.put(0), false);
        Kit.due("put of the 142nd", x.put(0), false);
        Kit.due("number of all bytes", x.clear(), 140);
        Kit.due("put into no bytes", x.put(255), true);
        Kit.due("number of one byte", x.clear(), 1);
    }

    private static void clears() {
        WasmSandbox x = new WasmSandbox();
        int[] seven = Kit.single(Kit.b(), 1, Kit.INT, 7);
        Kit.loads("clear", x, 0, WasmSandbox.OK, -1, seven);
        Kit.due("the bytes stay behind a load", x.clear(), seven.length);
        Kit.due("clear of none", x.clear(), 0);
        Kit.gives("the slots stay", x, 0, 0, 7);
        Kit.due("load of no bytes", x.load(0), WasmSandbox.MALFORMED);
        Kit.due("place of no bytes", x.place(), 0);
        Kit.gives("the slot stays behind MALFORMED", x, 0, 0, 7);
        Kit.put(x, seven);
        Kit.due("put behind a module", x.put(0), true);
        Kit.due("a byte too many", x.load(0), WasmSandbox.MALFORMED);
        Kit.due("place of a byte too many", x.place(), seven.length);
    }
}
