import java.util.ArrayList;
import java.util.List;

/** What the tests share: the opcodes by name, modules from parts, and the count of wrong answers. */
final class Kit {
    static final int TRAP = 0, NOP = 1, BLOCK = 2, LOOP = 3, IF = 4, ELSE = 5, END = 6, BR = 7, BR_IF = 8, BR_TABLE = 9, RETURN = 10;
    static final int CALL = 11, CALL_INDIRECT = 12, DROP = 13, SELECT = 14, GET = 15, SET = 16, TEE = 17, GGET = 18, GSET = 19;
    static final int INT = 20, LONG = 21, LOAD8 = 22, LOAD32 = 23, LOAD64 = 24, STORE8 = 25, STORE32 = 26, STORE64 = 27;
    static final int EQZ = 28, EQ = 29, NE = 30, LT = 31, LTU = 32, LE = 33, ADD = 34, SUB = 35, MUL = 36, DIV = 37, DIVU = 38, REM = 39;
    static final int AND = 40, OR = 41, XOR = 42, SHL = 43, SHR = 44, SHRU = 45, L = 18, WRAP = 64, EXTEND = 65, EXTENDU = 66;

    /** No types, imports or functions before; no globals, table or memory behind. */
    static final int[] NO_TYPES = {0}, NO_IMPORTS = {0}, NO_GLOBALS = {0}, NO_TABLE = {0}, NO_MEMORY = {0}, NOTHING_BEHIND = {0, 0, 0};

    private static int wrong = 0;
    private static String sentence = "";

    private Kit() {
    }

    /** What follows tests this sentence of the document. */
    static void sentence(String words) {
        sentence = "\"" + words + "\": ";
    }

    static void due(String what, long got, long want) {
        if (got != want) {
            wrong++;
            System.out.println(sentence + what + " answered " + got + ", due is " + want);
        }
    }

    static void due(String what, boolean got, boolean want) {
        due(what, got ? 1 : 0, want ? 1 : 0);
    }

    static void end() {
        if (wrong > 0) {
            System.out.println(wrong + " wrong");
            System.exit(1);
        }
    }

    static int[] b(int... bytes) {
        return bytes;
    }

    /** The instruction that gives this int, in as few bytes as it can. */
    static int[] number(int v) {
        int[] all = {INT};
        while (v < -64 || v > 63) {
            all = join(all, b(v & 127 | 128));
            v >>= 7;
        }
        return join(all, b(v & 127));
    }

    /** The same bytes n times. */
    static int[] many(int n, int... bytes) {
        int[][] parts = new int[n][];
        java.util.Arrays.fill(parts, bytes);
        return join(parts);
    }

    static int[] join(int[]... parts) {
        List<Integer> all = new ArrayList<>();
        for (int[] part : parts) {
            for (int v : part) {
                all.add(v);
            }
        }
        return all.stream().mapToInt(Integer::intValue).toArray();
    }

    /** A list of parts with its count before it. */
    static int[] list(int[]... parts) {
        return join(b(parts.length), join(parts));
    }

    /** A function without locals, with its END. */
    static int[] function(int type, int... body) {
        return join(b(type, 0), body, b(END));
    }

    /** A module of one function of the type p -> r (0: none) without locals; its body begins at the place 7 + p.length, less 1 if r is 0. */
    static int[] single(int[] p, int r, int... body) {
        int[] result = r == 0 ? b(0) : b(1, r);
        return join(b(1, p.length), p, result, NO_IMPORTS, list(function(0, body)), NOTHING_BEHIND);
    }

    /** The same with the memory, which holds 1 to 8 from byte 0 and 255 in byte 47. */
    static int[] singleWithMemory(int[] p, int r, int... body) {
        int[] without = single(p, r, body);
        int[] head = java.util.Arrays.copyOf(without, without.length - 1);
        return join(head, b(1, 2, 0, 8, 1, 2, 3, 4, 5, 6, 7, 8, 47, 1, 255));
    }

    static void put(WasmSandbox x, int... bytes) {
        x.clear();
        for (int v : bytes) {
            due("put(" + v + ")", x.put(v), true);
        }
    }

    static void loads(String what, WasmSandbox x, int slot, int outcome, int place, int... bytes) {
        put(x, bytes);
        due(what + ": load", x.load(slot), outcome);
        due(what + ": place", x.place(), place);
    }

    static WasmSandbox loaded(String what, int... bytes) {
        WasmSandbox x = new WasmSandbox();
        loads(what, x, 0, WasmSandbox.OK, -1, bytes);
        return x;
    }

    /** A run of a slot's function that ends well. */
    static void gives(String what, WasmSandbox x, int slot, int f, long result, long... arguments) {
        due(what + ": outcome", run(x, slot, f, arguments), WasmSandbox.DONE);
        due(what + ": result", x.result(), result);
        due(what + ": trappedAt", x.trappedAt(), -1);
    }

    /** A run that ends in a trap. */
    static void traps(String what, WasmSandbox x, int slot, int f, int trap, int at, long... arguments) {
        due(what + ": outcome", run(x, slot, f, arguments), trap);
        due(what + ": result", x.result(), 0);
        due(what + ": trappedAt", x.trappedAt(), at);
    }

    private static int run(WasmSandbox x, int slot, int f, long... arguments) {
        long[] a = java.util.Arrays.copyOf(arguments, 3);
        return x.invoke(slot, f, a[0], a[1], a[2]);
    }
}
