import java.math.BigInteger;

/** Promises 6 to 9: invoke, result, trappedAt, used, and with them RUNNING. */
public final class RunTest {
    private static final int[] NONE = {};
    // The place of the first instruction in Kit.single without a result and parameters.
    private static final int WITHOUT = 7;

    public static void main(String[] args) {
        wrongCalls();
        arguments();
        ints();
        longs();
        conversions();
        structure();
        tables();
        variables();
        accesses();
        indirect();
        depth();
        fuel();
        acrossSlots();
        Kit.end();
    }

    private static WasmSandbox single(String what, int[] p, int r, int... body) {
        return Kit.loaded(what, Kit.single(p, r, body));
    }

    private static void is(String what, long want, int... body) {
        Kit.gives(what, single(what, NONE, 1, body), 0, 0, want);
    }

    private static void wrongCalls() {
        WasmSandbox x = new WasmSandbox();
        Kit.due("invoke of an empty slot", x.invoke(0, 0, 0, 0, 0), WasmSandbox.BAD);
        int[] module = Kit.join(Kit.b(2, 1, 1, 0, 0, 1, 1, 1, 0, 16), Kit.list(
            Kit.function(1, Kit.LOOP, 0, Kit.INT, 5, Kit.CALL, 0, Kit.TRAP, Kit.END, Kit.INT, 0),
            Kit.function(1, Kit.CALL, 3), Kit.function(1, Kit.INT, 9)), Kit.NOTHING_BEHIND);
        Kit.loads("module", x, 0, WasmSandbox.OK, -1, module);
        Kit.gives("before BAD", x, 0, 2, 9);
        Kit.due("used before BAD", x.used(), 1);
        int[][] wrong = {{-1, 0}, {2, 1}, {1, 0}, {0, -1}, {0, 0}, {0, 4}, {0, 255}, {Integer.MIN_VALUE, 0}, {0, Integer.MIN_VALUE}, {0, Integer.MAX_VALUE}};
        for (int[] w : wrong) {
            Kit.due("invoke(" + w[0] + ", " + w[1] + ")", x.invoke(w[0], w[1], 0, 0, 0), WasmSandbox.BAD);
            Kit.due("result behind BAD", x.result(), 9);
            Kit.due("used behind BAD", x.used(), 1);
            Kit.due("nothing was printed", x.printed(-1), 0);
        }
        Kit.traps("a trap", x, 0, 1, WasmSandbox.UNREACHABLE, 19);
        Kit.due("invoke(0, 4)", x.invoke(0, 4, 0, 0, 0), WasmSandbox.BAD);
        Kit.due("trappedAt behind BAD", x.trappedAt(), 19);
        Kit.due("load keeps the answers", x.load(0), WasmSandbox.OK);
        Kit.due("trappedAt behind load", x.trappedAt(), 19);
        Kit.gives("a result takes the trap away", x, 0, 3, 9);
        Kit.due("used of one function", x.used(), 0);
    }

    private static void arguments() {
        long big = 0x1234567890ABCDEFL;
        for (int i = 0; i < 3; i++) {
            WasmSandbox x = single("a long argument", Kit.b(2, 2, 2), 2, Kit.GET, i);
            Kit.gives("argument " + i, x, 0, 0, i == 0 ? big : i == 1 ? 2 : -3, big, 2, -3);
            WasmSandbox y = single("an int argument", Kit.b(1, 1, 1), 1, Kit.GET, i);
            Kit.gives("low half of argument " + i, y, 0, 0, (int) big, big, big, big);
            Kit.gives("a negative low half of argument " + i, y, 0, 0, -1, LOW, LOW, LOW);
        }
        WasmSandbox x = single("no result", Kit.b(2), 0, Kit.NOP);
        Kit.gives("no result", x, 0, 0, 0, 5);
    }

    private static final long LOW = 0xFFFFFFFFL;
    private static final long[] NUMBERS = {0, 1, 2, 3, -1, -2, -3, 7, -7, 31, 32, 33, 63, 64, 65, 255, 1000003, Integer.MAX_VALUE, Integer.MIN_VALUE,
        Integer.MIN_VALUE + 1, LOW, 1L << 32, 1L << 62, Long.MAX_VALUE, Long.MIN_VALUE, Long.MIN_VALUE + 1, -9000000000000000001L, 0x123456789ABCDEFL};

    private static void ints() {
        for (int op = Kit.EQ; op <= Kit.SHRU; op++) {
            for (long a : NUMBERS) {
                WasmSandbox x = single("int " + op, Kit.b(1, 1), 1, Kit.GET, 0, Kit.GET, 1, op);
                for (long b : NUMBERS) {
                    operation("int " + op, x, op, a, b, (int) a, (int) b, 32);
                }
            }
        }
        WasmSandbox x = single("int EQZ", Kit.b(1), 1, Kit.GET, 0, Kit.EQZ);
        for (long a : NUMBERS) {
            Kit.gives("EQZ of " + a, x, 0, 0, (int) a == 0 ? 1 : 0, a);
        }
    }

    private static void longs() {
        for (int op = Kit.EQ; op <= Kit.SHRU; op++) {
            int r = op < Kit.ADD ? 1 : 2;
            for (long a : NUMBERS) {
                WasmSandbox x = single("long " + op, Kit.b(2, 2), r, Kit.GET, 0, Kit.GET, 1, op + Kit.L);
                for (long b : NUMBERS) {
                    operation("long " + op, x, op, a, b, a, b, 64);
                }
            }
        }
        WasmSandbox x = single("long EQZ", Kit.b(2), 1, Kit.GET, 0, Kit.EQZ + Kit.L);
        for (long a : NUMBERS) {
            Kit.gives("long EQZ of " + a, x, 0, 0, a == 0 ? 1 : 0, a);
        }
    }

    /** What is due is reckoned with whole numbers of any size. */
    private static void operation(String what, WasmSandbox x, int op, long a, long b, long v, long w, int bits) {
        BigInteger one = BigInteger.valueOf(v), two = BigInteger.valueOf(w), size = BigInteger.ONE.shiftLeft(bits);
        BigInteger uOne = one.mod(size), uTwo = two.mod(size);
        String all = what + " of " + a + " and " + b;
        int at = 14;
        if ((op == Kit.DIV || op == Kit.DIVU || op == Kit.REM) && w == 0) {
            Kit.traps(all, x, 0, 0, WasmSandbox.DIVIDE, at, a, b);
            return;
        }
        if (op == Kit.DIV && w == -1 && one.equals(size.shiftRight(1).negate())) {
            Kit.traps(all, x, 0, 0, WasmSandbox.OVERFLOW, at, a, b);
            return;
        }
        int by = (int) (w & bits - 1);
        BigInteger whole = switch (op) {
            case Kit.EQ -> truth(v == w);
            case Kit.NE -> truth(v != w);
            case Kit.LT -> truth(v < w);
            case Kit.LTU -> truth(uOne.compareTo(uTwo) < 0);
            case Kit.LE -> truth(v <= w);
            case Kit.ADD -> one.add(two);
            case Kit.SUB -> one.subtract(two);
            case Kit.MUL -> one.multiply(two);
            case Kit.DIV -> one.divide(two);
            case Kit.DIVU -> uOne.divide(uTwo);
            case Kit.REM -> one.remainder(two);
            case Kit.AND -> one.and(two);
            case Kit.OR -> one.or(two);
            case Kit.XOR -> one.xor(two);
            case Kit.SHL -> one.shiftLeft(by);
            case Kit.SHR -> one.shiftRight(by);
            default -> uOne.shiftRight(by);
        };
        Kit.gives(all, x, 0, 0, bits == 32 ? whole.intValue() : whole.longValue(), a, b);
    }

    private static BigInteger truth(boolean holds) {
        return holds ? BigInteger.ONE : BigInteger.ZERO;
    }

    private static void conversions() {
        WasmSandbox wrap = single("WRAP", Kit.b(2), 1, Kit.GET, 0, Kit.WRAP);
        WasmSandbox extend = single("EXTEND", Kit.b(1), 2, Kit.GET, 0, Kit.EXTEND);
        WasmSandbox extendU = single("EXTENDU", Kit.b(1), 2, Kit.GET, 0, Kit.EXTENDU);
        for (long a : NUMBERS) {
            Kit.gives("WRAP of " + a, wrap, 0, 0, (int) a, a);
            Kit.gives("EXTEND of " + a, extend, 0, 0, (int) a, a);
            Kit.gives("EXTENDU of " + a, extendU, 0, 0, a & LOW, a);
        }
    }

    private static void structure() {
        WasmSandbox x = single("TRAP", NONE, 0, Kit.NOP, Kit.TRAP);
        Kit.traps("TRAP", x, 0, 0, WasmSandbox.UNREACHABLE, WITHOUT + 1);
        is("RETURN drops what is below", 3, Kit.INT, 1, Kit.INT, 2, Kit.INT, 3, Kit.RETURN);
        is("BR of the body", 3, Kit.INT, 1, Kit.INT, 3, Kit.BR, 0);
        is("BR out of a block", 5, Kit.BLOCK, 1, Kit.INT, 1, Kit.INT, 5, Kit.BR, 0, Kit.END);
        is("BR out of two blocks", 12, Kit.INT, 7, Kit.BLOCK, 1, Kit.INT, 1, Kit.BLOCK, 0, Kit.INT, 2, Kit.INT, 5, Kit.BR, 1, Kit.END, Kit.END, Kit.ADD);
        is("BR without a value", 4, Kit.INT, 4, Kit.BLOCK, 0, Kit.INT, 1, Kit.INT, 2, Kit.BR, 0, Kit.END);
        is("BR out of a LOOP's block to the body", 6, Kit.LOOP, 1, Kit.INT, 6, Kit.BR, 1, Kit.END);
        WasmSandbox branch = single("IF", Kit.b(1), 1, Kit.GET, 0, Kit.IF, 1, Kit.INT, 10, Kit.ELSE, Kit.INT, 20, Kit.END);
        Kit.gives("IF of 1", branch, 0, 0, 10, 1);
        Kit.gives("IF of -1", branch, 0, 0, 10, -1);
        Kit.gives("IF of 0", branch, 0, 0, 20, 0);
        Kit.gives("IF of 0 below", branch, 0, 0, 20, 1L << 32);
        WasmSandbox half = single("IF without ELSE", Kit.b(1), 1, Kit.GET, 0, Kit.IF, 0, Kit.INT, 7, Kit.SET, 0, Kit.END, Kit.GET, 0);
        Kit.gives("IF without ELSE of 5", half, 0, 0, 7, 5);
        Kit.gives("IF without ELSE of 0", half, 0, 0, 0, 0);
        WasmSandbox out = single("BR out of IF", Kit.b(1), 1, Kit.GET, 0, Kit.IF, 1, Kit.INT, 1, Kit.INT, 2, Kit.BR, 0, Kit.ELSE, Kit.INT, 3, Kit.INT, 4, Kit.BR, 0, Kit.END, Kit.INT, 40, Kit.ADD);
        Kit.gives("BR out of the first part", out, 0, 0, 42, 1);
        Kit.gives("BR out of the ELSE part", out, 0, 0, 44, 0);
        WasmSandbox brIf = single("BR_IF", Kit.b(1), 1, Kit.BLOCK, 1, Kit.INT, 8, Kit.GET, 0, Kit.BR_IF, 0, Kit.INT, 1, Kit.ADD, Kit.END);
        Kit.gives("BR_IF of 0", brIf, 0, 0, 9, 0);
        Kit.gives("BR_IF of 2", brIf, 0, 0, 8, 2);
        // The sum of 1 to n: the loop begins anew with its stack cut.
        WasmSandbox sum = Kit.loaded("sum", Kit.join(Kit.b(1, 1, 1, 1, 1, 0, 1, 0, 1, 1), Kit.b(Kit.LOOP, 0, Kit.GET, 0, Kit.GET, 1, Kit.ADD, Kit.SET, 1,
            Kit.GET, 0, Kit.INT, 1, Kit.SUB, Kit.TEE, 0, Kit.BR_IF, 0, Kit.END, Kit.GET, 1, Kit.END), Kit.NOTHING_BEHIND));
        Kit.gives("sum", sum, 0, 0, 55, 10);
        Kit.due("used by the sum", sum.used(), 9);
        Kit.gives("sum again, with its local at 0", sum, 0, 0, 1, 1);
        Kit.due("used by a loop without a turn", sum.used(), 0);
        WasmSandbox cut = single("a loop's stack", Kit.b(1), 1, Kit.INT, 9, Kit.LOOP, 0, Kit.INT, 1, Kit.INT, 2, Kit.GET, 0, Kit.INT, 1, Kit.SUB, Kit.TEE, 0, Kit.BR_IF, 0, Kit.DROP, Kit.DROP, Kit.END);
        Kit.gives("a loop's stack is cut", cut, 0, 0, 9, 100);
        Kit.due("used by 100 turns", cut.used(), 99);
        is("the result of a LOOP", 3, Kit.LOOP, 1, Kit.INT, 3, Kit.END);
        is("SELECT of 1", 4, Kit.INT, 4, Kit.INT, 5, Kit.INT, 1, Kit.SELECT);
        is("SELECT of 0", 5, Kit.INT, 4, Kit.INT, 5, Kit.INT, 0, Kit.SELECT);
        is("DROP", 4, Kit.INT, 4, Kit.INT, 5, Kit.DROP);
    }

    private static void tables() {
        int[] body = {Kit.BLOCK, 0, Kit.BLOCK, 0, Kit.BLOCK, 0, Kit.GET, 0, Kit.BR_TABLE, 2, 0, 1, 2, Kit.END, Kit.INT, 10, Kit.RETURN, Kit.END, Kit.INT, 20, Kit.RETURN, Kit.END, Kit.INT, 30};
        WasmSandbox x = single("BR_TABLE", Kit.b(1), 1, body);
        Kit.gives("label 0", x, 0, 0, 10, 0);
        Kit.gives("label 1", x, 0, 0, 20, 1);
        Kit.gives("the last label", x, 0, 0, 30, 2);
        Kit.gives("the last label by 3", x, 0, 0, 30, 3);
        Kit.gives("the last label by -1", x, 0, 0, 30, -1);
        Kit.gives("the last label by the least", x, 0, 0, 30, Integer.MIN_VALUE);
        WasmSandbox none = single("BR_TABLE of none", Kit.b(1), 1, Kit.BLOCK, 1, Kit.INT, 6, Kit.GET, 0, Kit.BR_TABLE, 0, 0, Kit.END);
        Kit.gives("BR_TABLE of none", none, 0, 0, 6, 9);
        WasmSandbox spin = single("BR_TABLE to a LOOP", Kit.b(1), 0, Kit.LOOP, 0, Kit.GET, 0, Kit.INT, 1, Kit.SUB, Kit.TEE, 0, Kit.EQZ, Kit.BR_TABLE, 1, 0, 1, Kit.END);
        Kit.gives("BR_TABLE to a LOOP", spin, 0, 0, 0, 121);
        Kit.due("used by BR_TABLE", spin.used(), 120);
        Kit.traps("BR_TABLE without fuel", spin, 0, 0, WasmSandbox.FUEL, 18, 122);
    }

    private static void variables() {
        WasmSandbox x = Kit.loaded("locals", Kit.join(Kit.b(1, 1, 1, 1, 2, 0, 1, 0, 3, 1, 2, 1), Kit.b(Kit.GET, 0, Kit.TEE, 1, Kit.EXTEND, Kit.SET, 2, Kit.GET, 2, Kit.GET, 1, Kit.EXTEND, Kit.ADD + Kit.L,
            Kit.GET, 3, Kit.EXTEND, Kit.ADD + Kit.L, Kit.END), Kit.NOTHING_BEHIND));
        Kit.gives("locals", x, 0, 0, 14, 7);
        // A function that was called before leaves nothing in the locals of the next.
        WasmSandbox y = Kit.loaded("fresh locals", Kit.join(Kit.b(1, 0, 1, 1, 0, 2), Kit.b(0, 1, 1, Kit.GET, 0, Kit.INT, 9, Kit.SET, 0, Kit.END),
            Kit.function(0, Kit.CALL, 0, Kit.DROP, Kit.CALL, 0), Kit.NOTHING_BEHIND));
        Kit.gives("fresh locals", y, 0, 1, 0);
        Kit.gives("the order of the arguments", Kit.loaded("order", Kit.join(Kit.b(2, 3, 1, 1, 1, 1, 1, 0, 1, 1, 0, 2),
            Kit.function(0, Kit.GET, 0, Kit.GET, 1, Kit.SUB, Kit.GET, 2, Kit.MUL), Kit.function(1, Kit.INT, 60, Kit.INT, 10, Kit.INT, 2, Kit.CALL, 0), Kit.NOTHING_BEHIND)), 0, 1, 100);
    }

    private static void accesses() {
        load(Kit.LOAD8, 1, 0, 0, 1);
        load(Kit.LOAD8, 1, 7, 0, 8);
        load(Kit.LOAD8, 1, 0, 47, 255);
        load(Kit.LOAD32, 1, 0, 0, 0x04030201);
        load(Kit.LOAD32, 1, 1, 2, 0x07060504);
        load(Kit.LOAD32, 1, 44, 0, 0xFF000000);
        load(Kit.LOAD64, 2, 0, 0, 0x0807060504030201L);
        load(Kit.LOAD64, 2, 40, 0, 0xFF00000000000000L);
        int[] lengths = {1, 4, 8};
        for (int i = 0; i < 3; i++) {
            int kind = i == 2 ? 2 : 1;
            WasmSandbox load = Kit.loaded("load", Kit.singleWithMemory(Kit.b(1), kind, Kit.GET, 0, Kit.LOAD8 + i, 3));
            WasmSandbox store = Kit.loaded("store", Kit.singleWithMemory(Kit.b(1, kind), 0, Kit.GET, 0, Kit.GET, 1, Kit.STORE8 + i, 3));
            int last = 48 - lengths[i] - 3;
            Kit.due("the last load of " + lengths[i], load.invoke(0, 0, last, 0, 0), WasmSandbox.DONE);
            Kit.due("the last store of " + lengths[i], store.invoke(0, 0, last, 0x1122334455667788L, 0), WasmSandbox.DONE);
            for (int k = 0; k < lengths[i]; k++) {
                Kit.due("byte " + k + " of " + lengths[i], store.memory(0, last + 3 + k), 0x88 - 0x11 * k);
            }
            Kit.due("the byte before", store.memory(0, last + 2), 0);
            for (long address : new long[] {last + 1, 48, 255, -1, -3, -4, Integer.MIN_VALUE, Integer.MAX_VALUE}) {
                Kit.traps("load of " + lengths[i] + " at " + address, load, 0, 0, WasmSandbox.BOUNDS, 11, address);
                Kit.traps("store of " + lengths[i] + " at " + address, store, 0, 0, WasmSandbox.BOUNDS, 13, address, -1);
            }
            Kit.due("nothing of a store out of bounds stays", store.memory(0, 47), 0x88 - 0x11 * (lengths[i] - 1));
        }
        WasmSandbox far = Kit.loaded("far", Kit.singleWithMemory(Kit.b(1), 1, Kit.GET, 0, Kit.LOAD8, 255));
        Kit.traps("o alone is too far", far, 0, 0, WasmSandbox.BOUNDS, 11, 0);
        Kit.traps("o is added without wrapping", far, 0, 0, WasmSandbox.BOUNDS, 11, -255);
    }

    private static void load(int op, int kind, int address, int o, long want) {
        String what = "load " + op + " at " + address + " and " + o;
        Kit.gives(what, Kit.loaded(what, Kit.singleWithMemory(NONE, kind, Kit.INT, address, op, o)), 0, 0, want);
    }

    private static void indirect() {
        // Types: int -> int, the same again, long -> int, () -> (). Table: 0, 1, empty, 2.
        int[] module = Kit.join(Kit.b(4, 1, 1, 1, 1, 1, 1, 1, 1, 1, 2, 1, 1, 0, 0), Kit.b(0), Kit.list(
            Kit.function(0, Kit.GET, 0, Kit.INT, 1, Kit.ADD), Kit.function(2, Kit.INT, 50), Kit.function(3),
            Kit.function(0, Kit.INT, 7, Kit.GET, 0, Kit.CALL_INDIRECT, 1)), Kit.b(0, 4, 0, 1, 255, 2, 0));
        WasmSandbox x = Kit.loaded("indirect", module);
        int at = 16 + 1 + 8 + 5 + 3 + 2 + 4;
        Kit.gives("a type alike under another number", x, 0, 3, 8, 0);
        Kit.due("used by CALL_INDIRECT", x.used(), 1);
        Kit.traps("other parameters", x, 0, 3, WasmSandbox.SIGNATURE, at, 1);
        Kit.traps("an empty entry", x, 0, 3, WasmSandbox.EMPTY, at, 2);
        Kit.traps("another result", x, 0, 3, WasmSandbox.SIGNATURE, at, 3);
        Kit.traps("no entry 4", x, 0, 3, WasmSandbox.TABLE, at, 4);
        Kit.traps("no entry -1", x, 0, 3, WasmSandbox.TABLE, at, -1);
        Kit.due("used by a trap before the call", x.used(), 0);
        WasmSandbox none = single("no table", NONE, 0, Kit.INT, 0, Kit.CALL_INDIRECT, 0);
        Kit.traps("no table", none, 0, 0, WasmSandbox.TABLE, WITHOUT + 2);
        WasmSandbox self = Kit.loaded("a table of itself", Kit.join(Kit.b(1, 0, 0, 0), Kit.list(Kit.function(0, Kit.INT, 0, Kit.CALL_INDIRECT, 0)), Kit.b(0, 1, 0, 0)));
        Kit.traps("DEPTH of CALL_INDIRECT", self, 0, 0, WasmSandbox.DEPTH, WITHOUT + 2);
        WasmSandbox host = Kit.loaded("the host in a table", Kit.join(Kit.b(2, 1, 1, 0, 0, 0, 1, 0, 16), Kit.list(Kit.function(1, Kit.INT, 33, Kit.INT, 0, Kit.CALL_INDIRECT, 0)), Kit.b(0, 1, 0, 0)));
        Kit.gives("the host in a table", host, 0, 1, 0);
        Kit.due("it printed", host.printed(0), 33);
        Kit.due("the host uses no fuel", host.used(), 0);
    }

    private static void depth() {
        // f(n): if n, f(n - 1), else print: the host's functions are not counted.
        int[] module = Kit.join(Kit.b(1, 1, 1, 0, 1, 0, 16), Kit.list(Kit.function(0, Kit.GET, 0, Kit.IF, 0, Kit.GET, 0, Kit.INT, 1, Kit.SUB, Kit.CALL, 1, Kit.ELSE, Kit.INT, 9, Kit.CALL, 0, Kit.END)), Kit.NOTHING_BEHIND);
        WasmSandbox x = Kit.loaded("depth", module);
        Kit.gives("10 active", x, 0, 1, 0, 9);
        Kit.due("used by 10 active", x.used(), 9);
        Kit.due("print at depth 10", x.printed(-1), 1);
        Kit.traps("11 active", x, 0, 1, WasmSandbox.DEPTH, 19, 10);
        Kit.due("used by 11 active", x.used(), 9);
        for (int i = 0; i < 100; i++) {
            Kit.traps("11 active again", x, 0, 1, WasmSandbox.DEPTH, 19, 10);
        }
        Kit.gives("the next run begins at depth 1", x, 0, 1, 0, 9);
    }

    private static void fuel() {
        WasmSandbox loop = single("a loop", NONE, 0, Kit.LOOP, 0, Kit.BR, 0, Kit.END);
        Kit.traps("an endless loop", loop, 0, 0, WasmSandbox.FUEL, WITHOUT + 2);
        Kit.due("used by an endless loop", loop.used(), 120);
        WasmSandbox count = single("a count", Kit.b(1), 0, Kit.LOOP, 0, Kit.GET, 0, Kit.INT, 1, Kit.SUB, Kit.TEE, 0, Kit.BR_IF, 0, Kit.END);
        Kit.gives("120 turns more", count, 0, 0, 0, 121);
        Kit.due("used by 120 turns more", count.used(), 120);
        Kit.traps("121 turns more", count, 0, 0, WasmSandbox.FUEL, 17, 122);
        Kit.due("used by 121 turns more", count.used(), 120);
        Kit.gives("a new run has its own fuel", count, 0, 0, 0, 1);
        Kit.due("used by one turn", count.used(), 0);
        int[] calls = Kit.join(Kit.b(2, 1, 1, 0, 0, 0), Kit.b(0), Kit.list(Kit.function(1),
            Kit.function(0, Kit.LOOP, 0, Kit.CALL, 0, Kit.GET, 0, Kit.INT, 1, Kit.SUB, Kit.TEE, 0, Kit.BR_IF, 0, Kit.END)), Kit.NOTHING_BEHIND);
        WasmSandbox x = Kit.loaded("calls in a loop", calls);
        Kit.gives("60 calls", x, 0, 1, 0, 60);
        Kit.due("used by 60 calls", x.used(), 119);
        Kit.traps("61 calls", x, 0, 1, WasmSandbox.FUEL, 15, 61);
        Kit.due("used by 61 calls", x.used(), 120);
        WasmSandbox inward = single("blocks in a loop", Kit.b(1), 0, Kit.LOOP, 0, Kit.BLOCK, 0, Kit.BR, 0, Kit.END, Kit.GET, 0, Kit.INT, 1, Kit.SUB, Kit.TEE, 0, Kit.BR_IF, 0, Kit.END);
        Kit.gives("a BR to a block uses none", inward, 0, 0, 0, 3);
        Kit.due("used by two turns", inward.used(), 2);
    }

    private static void acrossSlots() {
        // Slot 0: a memory, a global, a table of its own, and a function that uses them and may trap.
        int[] below = Kit.join(Kit.b(2, 1, 1, 1, 1, 1, 1, 0, 1, 1, 16), Kit.list(
            Kit.function(0, Kit.GET, 0, Kit.GSET, 0, Kit.INT, 2, Kit.GET, 0, Kit.STORE8, 0, Kit.INT, 30, Kit.GET, 0, Kit.DIV)), Kit.b(1, 1, 1, 5), Kit.b(1, 1), Kit.b(1, 0));
        int[] above = Kit.join(Kit.b(2, 1, 1, 1, 1, 1, 1, 0, 2, 0, 1, 1, 0), Kit.list(
            Kit.function(0, Kit.GET, 0, Kit.CALL, 0, Kit.INT, 1, Kit.ADD), Kit.function(1, Kit.GET, 0, Kit.CALL, 1),
            Kit.function(0, Kit.LOOP, 1, Kit.GET, 0, Kit.CALL, 0, Kit.DROP, Kit.BR, 0, Kit.END),
            Kit.function(0, Kit.GET, 0, Kit.CALL, 5)), Kit.b(1, 1, 1, 5), Kit.b(0), Kit.b(1, 0));
        WasmSandbox x = Kit.loaded("below", below);
        Kit.loads("above", x, 1, WasmSandbox.OK, -1, above);
        Kit.gives("a call across", x, 1, 2, 11, 3);
        Kit.due("used by a call across", x.used(), 1);
        Kit.due("slot 0's global", x.global(0, 0), 3);
        Kit.due("slot 1's global", x.global(1, 0), 5);
        Kit.due("slot 0's memory", x.memory(0, 2), 3);
        Kit.due("slot 1's memory", x.memory(1, 2), 0);
        Kit.traps("a trap in slot 0", x, 1, 2, WasmSandbox.DIVIDE, 28, 0);
        Kit.due("what was done stays", x.global(0, 0), 0);
        Kit.gives("the host through slot 0", x, 1, 3, 0, 77);
        Kit.due("it printed", x.printed(0), 77);
        Kit.due("the host through slot 0 uses no fuel", x.used(), 0);
        Kit.traps("FUEL across", x, 1, 4, WasmSandbox.FUEL, 1037, 6);
        Kit.traps("DEPTH in slot 1", x, 1, 5, WasmSandbox.DEPTH, 1048, 6);
        int[] seven = Kit.join(Kit.b(2, 0, 1, 1, 1, 1, 0, 3, 1, 16, 0, 17, 1, 16), Kit.list(Kit.function(0, Kit.INT, 3), Kit.function(0, Kit.INT, 4),
            Kit.function(0, Kit.INT, 5), Kit.function(0, Kit.INT, 6)), Kit.NOTHING_BEHIND);
        Kit.loads("seven functions", x, 0, WasmSandbox.OK, -1, seven);
        for (int what = 3; what <= 6; what++) {
            int[] caller = Kit.join(Kit.b(1, 0, 1, 1, 1, 0, what), Kit.list(Kit.function(0, Kit.CALL, 0)), Kit.NOTHING_BEHIND);
            Kit.loads("function " + what, x, 1, WasmSandbox.OK, -1, caller);
            Kit.gives("function " + what, x, 1, 1, what);
        }
    }
}
