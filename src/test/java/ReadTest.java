/** Promises 4 and 5: load of bytes that are no module, and the place where they go wrong. */
public final class ReadTest {
    private static final int[] EMPTY = {0, 0, 0, 0, 0, 0};

    public static void main(String[] args) {
        slots();
        counts();
        bodies();
        nesting();
        constants();
        everyBeginning();
        Kit.end();
    }

    private static void wrong(String what, int place, int... bytes) {
        WasmSandbox x = new WasmSandbox();
        Kit.loads(what, x, 0, WasmSandbox.MALFORMED, place, bytes);
        Kit.loads(what + " (slot 1)", x, 1, WasmSandbox.MALFORMED, place, bytes);
    }

    private static void fine(String what, int... bytes) {
        Kit.loaded(what, bytes);
    }

    private static void slots() {
        WasmSandbox x = new WasmSandbox();
        Kit.due("load(-1)", x.load(-1), WasmSandbox.BAD);
        Kit.due("load(2)", x.load(2), WasmSandbox.BAD);
        Kit.due("place behind BAD alone", x.place(), -1);
        Kit.loads("a 9", x, 0, WasmSandbox.MALFORMED, 0, 9);
        Kit.due("load(2) behind it", x.load(2), WasmSandbox.BAD);
        Kit.due("place behind BAD stays", x.place(), 0);
        Kit.loads("the least module", x, 0, WasmSandbox.OK, -1, EMPTY);
        Kit.due("load(-1) behind OK", x.load(-1), WasmSandbox.BAD);
        Kit.due("place behind OK and BAD", x.place(), -1);
        Kit.due("it has no function", x.invoke(0, 0, 0, 0, 0), WasmSandbox.BAD);
    }

    private static void counts() {
        wrong("five types", 0, 5);
        wrong("four parameters", 1, 1, 4);
        wrong("a kind 0", 2, 1, 1, 0);
        wrong("a kind 3", 3, 1, 2, 1, 3);
        wrong("two results", 2, 1, 0, 2);
        wrong("a result of kind 3", 3, 1, 0, 1, 3);
        wrong("four imports", 1, 0, 4);
        wrong("five functions", 2, 0, 0, 5);
        wrong("four locals", 4, 0, 0, 1, 0, 4);
        wrong("a local of kind 0", 5, 0, 0, 1, 0, 1, 0);
        wrong("four globals", 3, 0, 0, 0, 4);
        wrong("a global of kind 3", 4, 0, 0, 0, 1, 3);
        wrong("a global that may be 2", 5, 0, 0, 0, 1, 1, 2);
        wrong("six entries", 4, 0, 0, 0, 0, 6);
        wrong("two memories", 5, 0, 0, 0, 0, 0, 2);
        wrong("three DATA", 6, 0, 0, 0, 0, 0, 1, 3);
        wrong("nine bytes of DATA", 8, 0, 0, 0, 0, 0, 1, 1, 0, 9);
        wrong("a byte too many", 6, 0, 0, 0, 0, 0, 0, 0);
        wrong("a byte too many behind the memory", 7, 0, 0, 0, 0, 0, 1, 0, 0);
        fine("all at their most", Kit.join(Kit.b(4), Kit.b(3, 1, 2, 1, 1, 2), Kit.b(0, 0), Kit.b(0, 1, 1), Kit.b(1, 1, 0),
            Kit.b(3, 3, 16, 2, 17, 3, 16), Kit.b(4, 1, 3, 1, 2, 1, 6), Kit.function(1), Kit.function(1), Kit.function(1),
            Kit.b(3, 1, 0, 5, 2, 1, 5, 1, 1, 5), Kit.b(5, 0, 1, 6, 255, 3), Kit.b(1, 2, 40, 8, 1, 2, 3, 4, 5, 6, 7, 8, 48, 0)));
    }

    private static void bodies() {
        int[] head = Kit.b(1, 0, 0, 0, 1, 0, 0);
        wrong("an instruction 67", 7, Kit.join(head, Kit.b(67)));
        wrong("an instruction 255", 8, Kit.join(head, Kit.b(1, 255)));
        wrong("a block's result 3", 8, Kit.join(head, Kit.b(Kit.BLOCK, 3)));
        wrong("a loop's result 255", 8, Kit.join(head, Kit.b(Kit.LOOP, 255)));
        wrong("an IF's result 3", 8, Kit.join(head, Kit.b(Kit.IF, 3)));
        wrong("five targets", 8, Kit.join(head, Kit.b(Kit.BR_TABLE, 5)));
        wrong("four targets and no more", 14, Kit.join(head, Kit.b(Kit.BR_TABLE, 4, 0, 0, 0, 0, 0)));
        wrong("what follows may be any byte", 9, Kit.join(head, Kit.b(Kit.CALL, 255)));
        for (int op : new int[] {7, 8, 11, 12, 15, 16, 17, 18, 19, 22, 23, 24, 25, 26, 27}) {
            wrong("a 200 behind " + op, 9, Kit.join(head, Kit.b(op, 200)));
            wrong("a 200 behind " + op + " and another", 9, Kit.join(head, Kit.b(op, 200, 200)));
        }
        for (int op : new int[] {0, 1, 10, 13, 14, 28, 33, 45, 46, 63, 64, 65, 66}) {
            wrong("a 200 behind " + op, 8, Kit.join(head, Kit.b(op, 200)));
        }
    }

    private static void nesting() {
        int[] head = Kit.b(1, 0, 0, 0, 1, 0, 0);
        wrong("an ELSE in the body", 7, Kit.join(head, Kit.b(Kit.ELSE)));
        wrong("an ELSE in a BLOCK", 9, Kit.join(head, Kit.b(Kit.BLOCK, 0, Kit.ELSE)));
        wrong("an ELSE in a LOOP", 9, Kit.join(head, Kit.b(Kit.LOOP, 0, Kit.ELSE)));
        wrong("an ELSE in a BLOCK in an IF", 11, Kit.join(head, Kit.b(Kit.IF, 0, Kit.BLOCK, 0, Kit.ELSE)));
        wrong("a second ELSE", 10, Kit.join(head, Kit.b(Kit.IF, 0, Kit.ELSE, Kit.ELSE)));
        wrong("an ELSE behind the END of its IF", 11, Kit.join(head, Kit.b(Kit.IF, 0, Kit.ELSE, Kit.END, Kit.ELSE)));
        wrong("a second ELSE behind an inner IF's", 15, Kit.join(head, Kit.b(Kit.IF, 0, Kit.ELSE, Kit.IF, 0, Kit.ELSE, Kit.END, 1, Kit.ELSE)));
        wrong("a missing END", 10, Kit.join(head, Kit.b(Kit.BLOCK, 0, Kit.END)));
        int[] all = new int[140];
        System.arraycopy(head, 0, all, 0, 7);
        for (int i = 7; i < 140; i++) {
            all[i] = i % 2 == 1 ? Kit.IF : 0;
        }
        wrong("140 bytes of IFs", 140, all);
        int[] one = Kit.join(head, Kit.b(Kit.INT, 1, Kit.IF, 0, Kit.INT, 1, Kit.IF, 0, Kit.ELSE, Kit.END, Kit.ELSE, Kit.NOP, Kit.END, Kit.END), Kit.NOTHING_BEHIND);
        fine("an ELSE behind an inner IF", one);
    }

    private static void constants() {
        int[] head = Kit.b(0, 0, 0, 2, 1, 0);
        wrong("an int of six bytes", 10, Kit.join(head, Kit.b(128, 128, 128, 128, 128, 0)));
        wrong("an int of five bytes, the last above 127", 10, Kit.join(head, Kit.b(255, 255, 255, 255, 255)));
        wrong("an int of no end", 10, Kit.join(head, Kit.b(255, 255, 255, 255)));
        wrong("a long of eleven bytes", 15, Kit.join(Kit.b(0, 0, 0, 1, 2, 0), Kit.b(128, 128, 128, 128, 128, 128, 128, 128, 128, 128, 0)));
        wrong("a CONST int of six bytes", 12, Kit.b(1, 0, 0, 0, 1, 0, 0, Kit.INT, 128, 128, 128, 128, 128, 0));
        wrong("a CONST long of eleven bytes", 17, Kit.b(1, 0, 0, 0, 1, 0, 0, Kit.LONG, 128, 128, 128, 128, 128, 128, 128, 128, 128, 128, 0));
        value("63", 63, 1, 63);
        value("-64", -64, 1, 64);
        value("-1", -1, 1, 127);
        value("64 in two", 64, 1, 192, 0);
        value("-1 in five", -1, 1, 255, 255, 255, 255, 127);
        value("0 in five", 0, 1, 128, 128, 128, 128, 0);
        value("greatest int", Integer.MAX_VALUE, 1, 255, 255, 255, 255, 7);
        value("least int", Integer.MIN_VALUE, 1, 128, 128, 128, 128, 120);
        value("an int with bits above", Integer.MIN_VALUE, 1, 128, 128, 128, 128, 8);
        value("an int with other bits above", 1, 1, 129, 128, 128, 128, 112);
        value("-1 as a long", -1, 2, 127);
        value("a long of five", 1L << 31, 2, 128, 128, 128, 128, 8);
        value("a negative long of five", -(1L << 34), 2, 128, 128, 128, 128, 64);
        value("a long of nine", -(1L << 62), 2, 128, 128, 128, 128, 128, 128, 128, 128, 64);
        value("greatest long", Long.MAX_VALUE, 2, 255, 255, 255, 255, 255, 255, 255, 255, 255, 0);
        value("least long", Long.MIN_VALUE, 2, 128, 128, 128, 128, 128, 128, 128, 128, 128, 127);
        value("a long with bits above", Long.MIN_VALUE, 2, 128, 128, 128, 128, 128, 128, 128, 128, 128, 1);
        value("a long with other bits above", 0, 2, 128, 128, 128, 128, 128, 128, 128, 128, 128, 126);
    }

    /** As a global's beginning and as an instruction. */
    private static void value(String what, long want, int kind, int... bytes) {
        WasmSandbox x = Kit.loaded(what, Kit.join(Kit.b(1, 0, 1, kind, 0, 1, 0, 0, kind == 1 ? Kit.INT : Kit.LONG), bytes, Kit.b(Kit.END, 1, kind, 0), bytes, Kit.b(0, 0)));
        Kit.due(what + ": global", x.global(0, 0), want);
        Kit.gives(what, x, 0, 0, want);
    }

    /** A module that is cut is not complete, wherever it is cut. */
    private static void everyBeginning() {
        int[] module = Kit.join(Kit.b(2, 1, 1, 0, 0, 1, 1, 2, 0, 16, 1, 17), Kit.list(
            Kit.function(0, Kit.GET, 0, Kit.IF, 0, Kit.GET, 0, Kit.BR_TABLE, 2, 0, 1, 0, Kit.ELSE, Kit.INT, 128, 1, Kit.DROP, Kit.END),
            Kit.join(Kit.b(1, 2, 1, 2), Kit.b(Kit.LONG, 255, 255, 0, Kit.SET, 1, Kit.CALL, 1, Kit.END))),
            Kit.b(1, 2, 1, 128, 0), Kit.b(2, 0, 255), Kit.b(1, 1, 3, 2, 9, 9));
        for (int i = 0; i < module.length; i++) {
            wrong("the first " + i, i, java.util.Arrays.copyOf(module, i));
        }
        fine("the whole", module);
    }
}
