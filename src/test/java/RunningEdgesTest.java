/** The edges of RUNNING: control, calls, depth, fuel and traps. One method a sentence. */
public final class RunningEdgesTest {
    private static final int[] NONE = {};
    private static final int LEAST = Integer.MIN_VALUE, MOST = Integer.MAX_VALUE;
    // n = n - 1, with n on the stack, for a function's first parameter.
    private static final int[] COUNT_DOWN = {Kit.GET, 0, Kit.INT, 1, Kit.SUB, Kit.TEE, 0};

    public static void main(String[] args) {
        labels();
        variables();
        ifs();
        leavesToTheEnd();
        likeReturn();
        loopBeginning();
        aboveIsGone();
        brTable();
        select();
        locals();
        noEntry();
        emptyEntry();
        signature();
        entryOrder();
        depth();
        depthBeforeFuel();
        fuelOfCalls();
        fuelOfLoops();
        noOtherFuel();
        noneIsLeft();
        trapEnds();
        trapLeavesNothing();
        callTrapsAt();
        staysDone();
        hostFunctions();
        Kit.end();
    }

    private static int[] j(int[]... parts) {
        return Kit.join(parts);
    }

    private static int[] b(int... bytes) {
        return bytes;
    }

    private static Mod one(int[] parameters, int r, int... body) {
        return new Mod().type(parameters, r == 0 ? NONE : b(r)).function(0, body);
    }

    private static WasmSandbox load(String what, Mod module) {
        return Kit.loaded(what, module.bytes());
    }

    /** A function int -> int with this body. */
    private static void is(String what, long want, long n, int... body) {
        Kit.gives(what, load(what, one(b(1), 1, body)), 0, 0, want, n);
    }

    private static void labels() {
        Kit.sentence("d: a label: 0 the innermost open BLOCK, LOOP, IF or the body itself, 1 the next around it");
        // Behind the END of the k-th frame from within, k is added; to leave by label d gives what is added behind it.
        int[] opens = {Kit.BLOCK, 0, Kit.GET, 0, Kit.IF, 0, Kit.BLOCK, 0, Kit.GET, 0, Kit.IF, 0};
        for (int d = 0; d <= 4; d++) {
            int[] ends = NONE;
            for (int k = 0; k < 4; k++) {
                ends = j(ends, b(Kit.END, Kit.GET, 1, Kit.INT, 1 << k, Kit.ADD, Kit.SET, 1));
            }
            Mod module = new Mod().type(b(1), 1).functionWith(0, b(1), j(opens, b(Kit.INT, 0, Kit.BR, d), ends, b(Kit.GET, 1)));
            Kit.gives("label " + d, load("label " + d, module), 0, 0, 15 >> d << d, 1);
        }
        // Behind an END a label counts from the next frame.
        is("behind an END", 3, 0, Kit.BLOCK, 0, Kit.BLOCK, 0, Kit.END, Kit.BR, 0, Kit.END, Kit.INT, 3);
        is("in a LOOP in a LOOP", 3, 0, Kit.LOOP, 0, Kit.LOOP, 0, Kit.INT, 3, Kit.BR, 2, Kit.END, Kit.END, Kit.TRAP);
    }

    private static void variables() {
        Kit.sentence("v: the parameters, then the locals, of the function");
        for (int p = 0; p <= 3; p++) {
            for (int v = 0; v < p + 3; v++) {
                int[] set = {Kit.LONG, 41, Kit.SET, p, Kit.LONG, 42, Kit.SET, p + 1, Kit.LONG, 43, Kit.SET, p + 2, Kit.GET, v};
                Mod module = new Mod().type(Kit.many(p, 2), 2).functionWith(0, b(2, 2, 2), set);
                Kit.gives("variable " + v + " behind " + p + " parameters", load("variables", module), 0, 0, v < p ? 11 + v : 41 + v - p, 11, 12, 13);
            }
        }
    }

    private static void ifs() {
        Kit.sentence("IF runs its first part if i is not 0, else its ELSE part.");
        for (int n : new int[] {1, -1, 2, LEAST, MOST, 256}) {
            is("IF of " + n, 5, n, Kit.GET, 0, Kit.IF, 1, Kit.INT, 5, Kit.ELSE, Kit.INT, 6, Kit.END);
            is("IF of " + n + " without ELSE", 7, n, Kit.GET, 0, Kit.IF, 0, Kit.INT, 7, Kit.RETURN, Kit.END, Kit.INT, 8);
        }
        is("IF of 0", 6, 0, Kit.GET, 0, Kit.IF, 1, Kit.INT, 5, Kit.ELSE, Kit.INT, 6, Kit.END);
        is("IF of 0 without ELSE", 8, 0, Kit.GET, 0, Kit.IF, 0, Kit.INT, 7, Kit.RETURN, Kit.END, Kit.INT, 8);
        is("IF of 0 with an ELSE inside", 8, 0, Kit.GET, 0, Kit.IF, 0, Kit.INT, 0, Kit.IF, 0, Kit.ELSE, Kit.TRAP, Kit.END, Kit.END, Kit.INT, 8);
        is("IF of 0 with an empty ELSE part", 9, 0, Kit.GET, 0, Kit.IF, 0, Kit.TRAP, Kit.ELSE, Kit.END, Kit.INT, 9);
        is("IF of 1 with an empty first part", 9, 1, Kit.GET, 0, Kit.IF, 0, Kit.ELSE, Kit.TRAP, Kit.END, Kit.INT, 9);
    }

    private static void leavesToTheEnd() {
        Kit.sentence("BR d leaves to the END of that label's BLOCK or IF");
        is("a BLOCK", 3, 0, Kit.BLOCK, 0, Kit.BR, 0, Kit.TRAP, Kit.END, Kit.INT, 3);
        is("an IF", 3, 1, Kit.GET, 0, Kit.IF, 0, Kit.BR, 0, Kit.ELSE, Kit.TRAP, Kit.END, Kit.INT, 3);
        is("an IF without ELSE", 3, 1, Kit.GET, 0, Kit.IF, 0, Kit.BR, 0, Kit.TRAP, Kit.END, Kit.INT, 3);
        is("an ELSE part", 3, 0, Kit.GET, 0, Kit.IF, 0, Kit.TRAP, Kit.ELSE, Kit.BR, 0, Kit.TRAP, Kit.END, Kit.INT, 3);
        is("the outer of two", 3, 0, Kit.BLOCK, 0, Kit.BLOCK, 0, Kit.BR, 1, Kit.END, Kit.TRAP, Kit.END, Kit.INT, 3);
        is("the inner of two", 4, 0, Kit.BLOCK, 0, Kit.BLOCK, 0, Kit.BR, 0, Kit.END, Kit.INT, 4, Kit.RETURN, Kit.END, Kit.INT, 3);
        is("out of a LOOP", 3, 0, Kit.BLOCK, 0, Kit.LOOP, 0, Kit.BR, 1, Kit.END, Kit.TRAP, Kit.END, Kit.INT, 3);
        is("from the deepest", 3, 0, j(Kit.many(7, Kit.BLOCK, 0), b(Kit.BR, 6), Kit.many(6, Kit.END, Kit.TRAP), b(Kit.END, Kit.INT, 3)));
        is("BR_IF of 0 goes on", 4, 0, Kit.BLOCK, 0, Kit.GET, 0, Kit.BR_IF, 0, Kit.INT, 4, Kit.RETURN, Kit.END, Kit.INT, 3);
        is("BR_IF of the least leaves", 3, LEAST, Kit.BLOCK, 0, Kit.GET, 0, Kit.BR_IF, 0, Kit.INT, 4, Kit.RETURN, Kit.END, Kit.INT, 3);
    }

    private static void likeReturn() {
        Kit.sentence("of the body: like RETURN");
        is("BR", 3, 0, Kit.INT, 3, Kit.BR, 0);
        is("BR from within", 3, 0, Kit.BLOCK, 0, Kit.LOOP, 0, Kit.INT, 3, Kit.BR, 2, Kit.END, Kit.END, Kit.TRAP);
        is("BR_IF", 3, 1, Kit.INT, 3, Kit.GET, 0, Kit.BR_IF, 0, Kit.TRAP);
        is("BR_TABLE", 3, 1, Kit.INT, 3, Kit.GET, 0, Kit.BR_TABLE, 0, 0);
        is("a body that begins with a LOOP", 3, 0, Kit.LOOP, 0, Kit.INT, 3, Kit.BR, 1, Kit.END, Kit.TRAP);
        Mod called = one(b(1), 1, Kit.INT, 40, Kit.GET, 0, Kit.CALL, 1, Kit.ADD).function(0, Kit.INT, 9, Kit.BLOCK, 0, Kit.INT, 8, Kit.GET, 0, Kit.BR, 1, Kit.END, Kit.TRAP);
        Kit.gives("of a function that was called", load("called", called), 0, 0, 42, 2);
    }

    private static void loopBeginning() {
        Kit.sentence("of a LOOP it goes on at its beginning");
        int[] turn = j(b(Kit.GET, 1, Kit.INT, 1, Kit.ADD, Kit.SET, 1), COUNT_DOWN);
        for (int[] to : new int[][] {{Kit.BR_IF, 0}, {Kit.IF, 0, Kit.BR, 1, Kit.END}, {Kit.EQZ, Kit.BR_TABLE, 1, 0, 1}}) {
            Mod turns = new Mod().type(b(1), 1).functionWith(0, b(1), j(b(Kit.LOOP, 0), turn, to, b(Kit.END, Kit.GET, 1)));
            boolean table = to[0] == Kit.EQZ;
            if (table) {
                turns = new Mod().type(b(1), 1).functionWith(0, b(1), j(b(Kit.BLOCK, 0, Kit.LOOP, 0), turn, to, b(Kit.END, Kit.END, Kit.GET, 1)));
            }
            WasmSandbox x = load("turns", turns);
            Kit.gives("one turn by " + to[0], x, 0, 0, 1, 1);
            Kit.gives("two turns by " + to[0], x, 0, 0, 2, 2);
            Kit.gives("100 turns by " + to[0], x, 0, 0, 100, 100);
        }
        is("without a branch it ends", 5, 0, Kit.LOOP, 1, Kit.INT, 5, Kit.END);
        // Its beginning, not what stands before it.
        Mod before = new Mod().type(b(1), 1).functionWith(0, b(1), j(b(Kit.GET, 1, Kit.INT, 1, Kit.ADD, Kit.SET, 1, Kit.LOOP, 0), COUNT_DOWN, b(Kit.BR_IF, 0, Kit.END, Kit.GET, 1)));
        Kit.gives("what stands before it runs once", load("before", before), 0, 0, 1, 9);
    }

    private static void aboveIsGone() {
        Kit.sentence("what was on the stack above the label's height is gone, but for what the label wants");
        is("a BLOCK that wants nothing", 4, 0, Kit.INT, 4, Kit.BLOCK, 0, Kit.INT, 1, Kit.INT, 2, Kit.BR, 0, Kit.END);
        is("a BLOCK that wants an int", 7, 0, Kit.INT, 4, Kit.BLOCK, 1, Kit.INT, 1, Kit.INT, 2, Kit.INT, 3, Kit.BR, 0, Kit.END, Kit.ADD);
        is("two BLOCKs", 8, 0, Kit.INT, 4, Kit.BLOCK, 1, Kit.INT, 1, Kit.BLOCK, 1, Kit.INT, 2, Kit.INT, 4, Kit.BR, 1, Kit.END, Kit.TRAP, Kit.END, Kit.ADD);
        is("an IF that wants an int", 7, 1, Kit.INT, 4, Kit.GET, 0, Kit.IF, 1, Kit.INT, 1, Kit.INT, 3, Kit.BR, 0, Kit.ELSE, Kit.TRAP, Kit.END, Kit.ADD);
        is("BR_IF", 7, 1, Kit.INT, 4, Kit.BLOCK, 1, Kit.INT, 1, Kit.INT, 3, Kit.GET, 0, Kit.BR_IF, 0, Kit.TRAP, Kit.END, Kit.ADD);
        is("BR_IF that goes on keeps all", 4, 0, Kit.BLOCK, 1, Kit.INT, 1, Kit.INT, 3, Kit.GET, 0, Kit.BR_IF, 0, Kit.ADD, Kit.END);
        is("BR_TABLE", 7, 1, Kit.INT, 4, Kit.BLOCK, 1, Kit.INT, 1, Kit.INT, 3, Kit.GET, 0, Kit.BR_TABLE, 0, 0, Kit.END, Kit.ADD);
        is("a LOOP with a result", 6, 50, j(b(Kit.INT, 4, Kit.LOOP, 1, Kit.INT, 1, Kit.INT, 2), COUNT_DOWN, b(Kit.BR_IF, 0, Kit.DROP, Kit.DROP, Kit.INT, 2, Kit.END, Kit.ADD)));
        is("RETURN", 3, 0, Kit.INT, 1, Kit.BLOCK, 0, Kit.INT, 2, Kit.INT, 3, Kit.RETURN, Kit.END);
        Mod called = one(b(1), 1, Kit.INT, 40, Kit.GET, 0, Kit.CALL, 1, Kit.ADD).function(0, Kit.INT, 9, Kit.INT, 8, Kit.GET, 0, Kit.RETURN);
        Kit.gives("RETURN of a function that was called", load("called", called), 0, 0, 42, 2);
        Mod longs = one(b(2), 2, Kit.BLOCK, 2, Kit.INT, 1, Kit.GET, 0, Kit.BR, 0, Kit.END);
        Kit.gives("a long", load("a long", longs), 0, 0, Long.MIN_VALUE, Long.MIN_VALUE);
    }

    private static void brTable() {
        Kit.sentence("BR_TABLE goes by label i (unsigned) of the list, by the last one if there is none such.");
        // Label k leads to k + 10.
        int[] ends = NONE;
        for (int k = 0; k < 5; k++) {
            ends = j(ends, b(Kit.END, Kit.INT, 10 + k, Kit.RETURN));
        }
        int[][] lists = {{}, {3}, {2, 0}, {1, 1, 3}, {3, 2, 1, 0}};
        for (int[] list : lists) {
            Mod module = one(b(1), 1, j(Kit.many(5, Kit.BLOCK, 0), b(Kit.GET, 0, Kit.BR_TABLE, list.length), list, b(4), ends, b(Kit.TRAP)));
            WasmSandbox x = load("a list of " + list.length, module);
            for (int i : new int[] {0, 1, 2, 3, 4, 5, 255, MOST, LEAST, -1, -4}) {
                Kit.gives("label " + i + " of " + list.length, x, 0, 0, i >= 0 && i < list.length ? 10 + list[i] : 14, i);
            }
        }
    }

    private static void select() {
        Kit.sentence("SELECT gives the first x if i is not 0, else the second.");
        WasmSandbox x = load("SELECT", one(b(1, 2, 2), 2, Kit.GET, 1, Kit.GET, 2, Kit.GET, 0, Kit.SELECT));
        for (int i : new int[] {1, -1, 2, LEAST, MOST}) {
            Kit.gives("SELECT by " + i, x, 0, 0, 1L << 40, i, 1L << 40, 2);
        }
        Kit.gives("SELECT by 0", x, 0, 0, 2, 0, 1L << 40, 2);
        Kit.gives("SELECT by what is 0 in 32 bits", x, 0, 0, 2, 1L << 32, 1L << 40, 2);
    }

    private static void locals() {
        Kit.sentence("Locals begin with 0.");
        // Gives its locals' sum and leaves -1 in each.
        int[] sum = {Kit.GET, 1, Kit.EXTEND, Kit.GET, 2, Kit.ADD + Kit.L, Kit.GET, 3, Kit.EXTEND, Kit.ADD + Kit.L, Kit.INT, 127, Kit.SET, 1, Kit.LONG, 127, Kit.SET, 2, Kit.INT, 127, Kit.SET, 3};
        Mod module = new Mod().type(b(1), 2).functionWith(0, b(1, 2, 1), sum).function(0, Kit.GET, 0, Kit.CALL, 0, Kit.DROP, Kit.GET, 0, Kit.CALL, 0);
        WasmSandbox x = load("locals", module);
        for (int i = 0; i < 3; i++) {
            Kit.gives("run " + i, x, 0, 0, 0, -1, -1, -1);
            Kit.gives("call " + i, x, 0, 1, 0, -1, -1, -1);
        }
        int[] parameters = {1, 1, 1};
        Mod all = new Mod().type(parameters, 1).functionWith(0, parameters, Kit.GET, 3, Kit.GET, 4, Kit.OR, Kit.GET, 5, Kit.OR);
        Kit.gives("behind three parameters", load("three", all), 0, 0, 0, -1, -1, -1);
        for (int v = 3; v <= 5; v++) {
            Mod last = new Mod().type(parameters, 1).functionWith(0, parameters, Kit.GET, v, Kit.INT, 9, Kit.SET, v);
            WasmSandbox y = load("variable " + v, last);
            Kit.gives("variable " + v, y, 0, 0, 0);
            Kit.gives("variable " + v + " again", y, 0, 0, 0);
        }
    }

    // ---- Tables

    private static void noEntry() {
        Kit.sentence("CALL_INDIRECT: i (unsigned) is no number of a table entry: trap TABLE");
        for (int n = 0; n <= 5; n++) {
            Mod module = new Mod().type(b(1), 1).type(NONE, 1).function(0, Kit.GET, 0, Kit.CALL_INDIRECT, 1).function(1, Kit.INT, 6).table(Kit.many(n, 1));
            WasmSandbox x = load("a table of " + n, module);
            for (int i : new int[] {n, n + 1, 255, 256, MOST, LEAST, -1}) {
                Kit.traps("entry " + i + " of " + n, x, 0, 0, WasmSandbox.TABLE, module.bodyAt(0, 2), i);
            }
            for (int i = 0; i < n; i++) {
                Kit.gives("entry " + i + " of " + n, x, 0, 0, 6, i);
            }
        }
    }

    private static void emptyEntry() {
        Kit.sentence("the entry is empty: trap EMPTY");
        Mod module = new Mod().type(b(1), 1).type(NONE, 1).function(0, Kit.GET, 0, Kit.CALL_INDIRECT, 1).function(1, Kit.INT, 6).table(255, 1, 255, 1, 255);
        WasmSandbox x = load("empty entries", module);
        for (int i = 0; i < 5; i += 2) {
            Kit.traps("entry " + i, x, 0, 0, WasmSandbox.EMPTY, module.bodyAt(0, 2), i);
        }
        Kit.gives("entry 1", x, 0, 0, 6, 1);
        Kit.gives("entry 3", x, 0, 0, 6, 3);
    }

    private static void signature() {
        Kit.sentence("its function's type differs in parameters or result from the type named: trap SIGNATURE");
        int[][] kinds = {{}, {1}, {2}, {1, 1}, {1, 2}, {2, 1}, {1, 1, 1}, {1, 1, 2}};
        for (int[] p : kinds) {
            for (int r = 0; r <= 2; r++) {
                for (int[] q : kinds) {
                    for (int s = 0; s <= 2; s++) {
                        callAs(p, r, q, s);
                    }
                }
            }
        }
    }

    /** Calls a function q -> s through the table as one p -> r. */
    private static void callAs(int[] p, int r, int[] q, int s) {
        int[] result = r == 0 ? NONE : b(r), other = s == 0 ? NONE : b(s);
        int[] arguments = NONE;
        for (int kind : p) {
            arguments = j(arguments, b(kind == 1 ? Kit.INT : Kit.LONG, 0));
        }
        int[] body = s == 0 ? NONE : b(s == 1 ? Kit.INT : Kit.LONG, 33);
        Mod module = new Mod().type(NONE).type(p, result).type(q, other).function(0, j(arguments, b(Kit.INT, 0, Kit.CALL_INDIRECT, 1), r == 0 ? NONE : b(Kit.DROP)))
            .function(2, body).table(1);
        WasmSandbox x = load("types", module);
        String what = java.util.Arrays.toString(q) + " -> " + s + " called as " + java.util.Arrays.toString(p) + " -> " + r;
        if (r == s && java.util.Arrays.equals(p, q)) {
            Kit.gives(what, x, 0, 0, 0);
        } else {
            Kit.traps(what, x, 0, 0, WasmSandbox.SIGNATURE, module.bodyAt(0, arguments.length + 2));
        }
    }

    private static void entryOrder() {
        Kit.sentence("trap TABLE; the entry is empty: trap EMPTY; its function's type differs");
        // At depth 10 and without fuel the entry is looked at first.
        int[] down = {Kit.GET, 1, Kit.IF, 0, Kit.GET, 0, Kit.GET, 1, Kit.INT, 1, Kit.SUB, Kit.CALL, 0, Kit.ELSE};
        int[] spin = spin(111, 2);
        Mod module = new Mod().type(b(1, 1)).type(NONE, 1).functionWith(0, b(1), j(down, spin, b(Kit.GET, 0, Kit.CALL_INDIRECT, 1, Kit.DROP, Kit.END)))
            .function(1, Kit.INT, 6).table(1, 255, 0);
        WasmSandbox x = load("deep", module);
        int at = module.bodyAt(0, down.length + spin.length + 2);
        Kit.traps("no entry", x, 0, 0, WasmSandbox.TABLE, at, 3, 9);
        Kit.due("used", x.used(), 120);
        Kit.traps("an empty entry", x, 0, 0, WasmSandbox.EMPTY, at, 1, 9);
        Kit.traps("another type", x, 0, 0, WasmSandbox.SIGNATURE, at, 2, 9);
        Kit.traps("the right type", x, 0, 0, WasmSandbox.DEPTH, at, 0, 9);
        Kit.gives("the right type at depth 9", x, 0, 0, 0, 0, 8);
        Kit.due("used at depth 9", x.used(), 120);
    }

    // ---- Depth and fuel

    /** A LOOP that a BR_IF begins anew so many times, with a local that is 0 before. */
    private static int[] spin(int times, int v) {
        return j(b(Kit.LOOP, 0, Kit.GET, v, Kit.INT, 1, Kit.ADD, Kit.TEE, v), Kit.number(times + 1), b(Kit.LT, Kit.BR_IF, 0, Kit.END));
    }

    private static void depth() {
        Kit.sentence("if 10 are active (invoke's the first): trap DEPTH");
        for (int[] call : new int[][] {{Kit.CALL, 0}, {Kit.INT, 0, Kit.CALL_INDIRECT, 0}}) {
            // f(n) calls itself with n - 1 if n is not 0.
            Mod module = one(b(1), 0, j(b(Kit.GET, 0, Kit.IF, 0, Kit.GET, 0, Kit.INT, 1, Kit.SUB), call, b(Kit.END))).table(0);
            WasmSandbox x = load("diving", module);
            for (int n = 0; n <= 9; n++) {
                Kit.gives(n + 1 + " active", x, 0, 0, 0, n);
            }
            for (int n : new int[] {10, 11, -1}) {
                Kit.traps("11 active", x, 0, 0, WasmSandbox.DEPTH, module.bodyAt(0, 7 + call.length), n);
            }
            Kit.gives("a new run begins with one", x, 0, 0, 0, 9);
        }
        // f(n) = n + f(n - 1), by a BR out of a block to the body.
        Mod sum = one(b(1), 1, Kit.BLOCK, 0, Kit.GET, 0, Kit.EQZ, Kit.BR_IF, 0, Kit.GET, 0, Kit.GET, 0, Kit.INT, 1, Kit.SUB, Kit.CALL, 0, Kit.ADD, Kit.BR, 1, Kit.END, Kit.INT, 5, Kit.BR, 0);
        Kit.gives("the sum of 10 active", load("sum", sum), 0, 0, 50, 9);
        Mod flat = new Mod().type(NONE).function(0).function(0, Kit.many(20, Kit.CALL, 0));
        Kit.gives("20 calls behind one another", load("flat", flat), 0, 1, 0);
    }

    private static void depthBeforeFuel() {
        Kit.sentence("trap DEPTH; then one FUEL is used up");
        for (int times : new int[] {0, 110, 111}) {
            int[] down = {Kit.GET, 0, Kit.IF, 0, Kit.GET, 0, Kit.INT, 1, Kit.SUB, Kit.CALL, 0, Kit.ELSE}, spin = spin(times, 1);
            Mod module = new Mod().type(b(1)).functionWith(0, b(1), j(down, spin, b(Kit.GET, 0, Kit.CALL, 0, Kit.END)));
            WasmSandbox x = load("diving and spinning", module);
            Kit.traps(times + " turns at depth 10", x, 0, 0, WasmSandbox.DEPTH, module.bodyAt(0, down.length + spin.length + 2), 9);
            Kit.due("DEPTH uses none", x.used(), 9 + times);
        }
    }

    private static void fuelOfCalls() {
        Kit.sentence("Beginning a function of a module (not invoke's own): .. then one FUEL is used up");
        for (int n = 0; n <= 9; n++) {
            Mod module = new Mod().type(NONE).function(0).function(0, j(Kit.many(n, Kit.CALL, 0), Kit.many(n, Kit.INT, 0, Kit.CALL_INDIRECT, 0))).table(0);
            WasmSandbox x = load("calls", module);
            Kit.gives(n + " calls of both ways", x, 0, 1, 0);
            Kit.due("used by " + n + " calls of both ways", x.used(), 2 * n);
        }
        WasmSandbox y = load("below", new Mod().type(NONE).function(0).function(0, Kit.CALL, 0));
        Kit.loads("above", y, 1, WasmSandbox.OK, -1, new Mod().type(NONE).imports(0, 1).function(0, Kit.CALL, 0).bytes());
        Kit.gives("a call across and one there", y, 1, 1, 0);
        Kit.due("used by them", y.used(), 2);
    }

    private static void fuelOfLoops() {
        Kit.sentence("A BR, BR_IF or BR_TABLE that goes to a LOOP uses up one FUEL.");
        int[][] ways = {{Kit.BR_IF, 0}, {Kit.IF, 0, Kit.BR, 1, Kit.END}, {Kit.BR_TABLE, 1, 1, 0}, {Kit.BLOCK, 0, Kit.GET, 0, Kit.BR_IF, 1, Kit.END, Kit.DROP}};
        for (int[] way : ways) {
            WasmSandbox x = load("a loop", one(b(1), 0, j(b(Kit.BLOCK, 0, Kit.LOOP, 0), COUNT_DOWN, way, b(Kit.END, Kit.END))));
            for (int n : new int[] {1, 2, 3, 100, 121}) {
                Kit.gives(n + " turns by " + way[0], x, 0, 0, 0, n);
                Kit.due("used by " + n + " turns by " + way[0], x.used(), n - 1);
            }
        }
        // The inner loop is begun twice; the branch that begins it anew goes to the outer one.
        int[] nested = j(b(Kit.LOOP, 0, Kit.LOOP, 0), COUNT_DOWN, b(Kit.BR_IF, 1, Kit.END, Kit.END));
        WasmSandbox y = load("two loops", one(b(1), 0, nested));
        Kit.gives("two loops", y, 0, 0, 0, 10);
        Kit.due("used by two loops", y.used(), 9);
    }

    private static void noOtherFuel() {
        Kit.sentence("that goes to a LOOP");
        int[][] bodies = {{Kit.LOOP, 0, Kit.END}, {Kit.BLOCK, 0, Kit.BR, 0, Kit.END}, {Kit.BLOCK, 0, Kit.GET, 0, Kit.BR_IF, 0, Kit.END}, {Kit.BLOCK, 0, Kit.GET, 0, Kit.BR_TABLE, 0, 0, Kit.END},
            {Kit.GET, 0, Kit.IF, 0, Kit.BR, 0, Kit.ELSE, Kit.BR, 0, Kit.END}, {Kit.BR, 0}, {Kit.GET, 0, Kit.BR_IF, 0}, {Kit.GET, 0, Kit.BR_TABLE, 0, 0}, {Kit.RETURN},
            {Kit.LOOP, 0, Kit.BR, 1, Kit.END}, {Kit.LOOP, 0, Kit.RETURN, Kit.END}, {Kit.LOOP, 0, Kit.INT, 0, Kit.BR_IF, 0, Kit.END}, {Kit.LOOP, 0, Kit.GET, 0, Kit.BR_TABLE, 1, 1, 1, Kit.END},
            {Kit.BLOCK, 0, Kit.LOOP, 0, Kit.BR, 1, Kit.END, Kit.END}, {Kit.LOOP, 0, Kit.BLOCK, 0, Kit.BR, 0, Kit.END, Kit.END}};
        for (int i = 0; i < bodies.length; i++) {
            WasmSandbox x = load("body " + i, one(b(1), 0, bodies[i]));
            for (int n = 0; n <= 1; n++) {
                Kit.gives("body " + i + " with " + n, x, 0, 0, 0, n);
                Kit.due("used by body " + i + " with " + n, x.used(), 0);
            }
        }
    }

    private static void noneIsLeft() {
        Kit.sentence("A run has 120; if none is left: trap FUEL.");
        int[][] lasts = {{Kit.LOOP, 0, Kit.BR, 0, Kit.END}, {Kit.LOOP, 0, Kit.INT, 1, Kit.BR_IF, 0, Kit.END}, {Kit.LOOP, 0, Kit.INT, 1, Kit.BR_TABLE, 0, 0, Kit.END}, {Kit.CALL, 0}, {Kit.INT, 0, Kit.CALL_INDIRECT, 0}};
        int[] places = {2, 4, 4, 0, 2};
        for (int i = 0; i < lasts.length; i++) {
            int[] spin = spin(120, 0);
            Mod module = new Mod().type(NONE).function(0).functionWith(0, b(1), j(spin, lasts[i])).functionWith(0, b(1), spin).table(0);
            WasmSandbox x = load("fuel", module);
            for (int run = 0; run < 3; run++) {
                Kit.traps("a 121st by " + i, x, 0, 1, WasmSandbox.FUEL, module.bodyAt(1, spin.length + places[i]));
                Kit.due("used without a 121st", x.used(), 120);
                Kit.gives("120 alone", x, 0, 2, 0);
                Kit.due("used by 120 alone", x.used(), 120);
            }
            int[] last = i < 3 ? spin(1, 1) : lasts[i];
            WasmSandbox y = load("fuel that is enough", new Mod().type(NONE).function(0).functionWith(0, b(1, 1), j(spin(119, 0), last)).table(0));
            Kit.gives("a 120th by " + i, y, 0, 1, 0);
            Kit.due("used by a 120th", y.used(), 120);
        }
    }

    // ---- Traps

    /** Function 0 sets global 0 to 5, stores 6 in byte 0 and prints 7, then traps; what follows would undo all. */
    private static Mod doing(int[] trap) {
        int[] does = {Kit.INT, 5, Kit.GSET, 0, Kit.INT, 0, Kit.INT, 6, Kit.STORE8, 0, Kit.INT, 7, Kit.CALL, 0};
        int[] undoes = {Kit.INT, 0, Kit.GSET, 0, Kit.INT, 0, Kit.INT, 0, Kit.STORE8, 0, Kit.INT, 8, Kit.CALL, 0};
        return new Mod().type(b(1)).type(NONE).type(NONE, 1).imports(0, 16).function(1, j(does, trap, undoes)).function(2, Kit.INT, 0)
            .global(1, 1, 1).table(255, 2).memory();
    }

    private static final int DOES = 14;
    private static final int[][] TRAPS = {{Kit.TRAP}, {Kit.INT, 1, Kit.INT, 0, Kit.DIV, Kit.DROP}, {Kit.INT, 128, 128, 128, 128, 120, Kit.INT, 127, Kit.DIV, Kit.DROP}, {Kit.INT, 48, Kit.LOAD8, 0, Kit.DROP},
        {Kit.INT, 2, Kit.CALL_INDIRECT, 1}, {Kit.INT, 0, Kit.CALL_INDIRECT, 1}, {Kit.INT, 1, Kit.CALL_INDIRECT, 1}, {Kit.CALL, 1}, {Kit.LOOP, 0, Kit.BR, 0, Kit.END}};
    private static final int[] TRAP_PLACES = {0, 4, 8, 2, 2, 2, 2, 0, 2};

    private static void trapEnds() {
        Kit.sentence("A trap ends the run at the instruction that raised it");
        for (int i = 0; i < TRAPS.length; i++) {
            Mod module = doing(TRAPS[i]);
            WasmSandbox x = load("trap " + (i + 1), module);
            int at = module.bodyAt(0, DOES + TRAP_PLACES[i]);
            Kit.traps("trap " + (i + 1), x, 0, 1, i + 1, at);
            Kit.loads("slot 0", x, 0, WasmSandbox.OK, -1, new Mod().bytes());
            Kit.loads("trap " + (i + 1) + " in slot 1", x, 1, WasmSandbox.OK, -1, module.bytes());
            Kit.traps("trap " + (i + 1) + " in slot 1", x, 1, 1, i + 1, 1000 + at);
        }
    }

    /** More than all stacks could hold, if a run began where the one before it trapped. */
    private static void trapLeavesNothing() {
        Kit.sentence("A trap ends the run");
        Mod module = one(b(1), 1, j(Kit.many(19, Kit.INT, 1), Kit.many(7, Kit.BLOCK, 0), b(Kit.GET, 0, Kit.BR_IF, 0, Kit.TRAP), Kit.many(7, Kit.END), Kit.many(18, Kit.ADD)));
        WasmSandbox x = load("a full stack", module);
        for (int i = 0; i < 60; i++) {
            Kit.traps("run " + i, x, 0, 0, WasmSandbox.UNREACHABLE, module.bodyAt(0, 38 + 14 + 4), 0);
        }
        Kit.gives("a run behind them", x, 0, 0, 19, 1);
    }

    private static void callTrapsAt() {
        Kit.sentence("DEPTH and FUEL of a call: the CALL or CALL_INDIRECT");
        // Function 1 of slot 1 dives to depth 10 and calls slot 0's function there; function 2 calls it in a loop.
        for (int[] call : new int[][] {{Kit.CALL, 0}, {Kit.INT, 0, Kit.CALL_INDIRECT, 1}}) {
            WasmSandbox x = load("below", new Mod().type(NONE).function(0));
            int[] down = {Kit.GET, 0, Kit.IF, 0, Kit.GET, 0, Kit.INT, 1, Kit.SUB, Kit.CALL, 1, Kit.ELSE};
            Mod above = new Mod().type(b(1)).type(NONE).imports(1, 0).function(0, j(down, call, b(Kit.END)))
                .function(0, j(b(Kit.LOOP, 0), call, COUNT_DOWN, b(Kit.BR_IF, 0, Kit.END))).table(0);
            Kit.loads("above", x, 1, WasmSandbox.OK, -1, above.bytes());
            Kit.gives("10 active, the last in slot 0", x, 1, 1, 0, 8);
            Kit.traps("11 active, the last in slot 0", x, 1, 1, WasmSandbox.DEPTH, 1000 + above.bodyAt(0, down.length + call.length - 2), 9);
            Kit.due("used by 11 active", x.used(), 9);
            Kit.gives("60 calls and 59 turns", x, 1, 2, 0, 60);
            Kit.due("used by them", x.used(), 119);
            Kit.traps("a call without fuel", x, 1, 2, WasmSandbox.FUEL, 1000 + above.bodyAt(1, 2 + call.length - 2), 61);
        }
    }

    private static void staysDone() {
        Kit.sentence("what was done to memories, globals and printed stays");
        for (int i = 0; i < TRAPS.length; i++) {
            WasmSandbox x = load("trap " + (i + 1), doing(TRAPS[i]));
            Kit.due("global before", x.global(0, 0), 1);
            Kit.due("trap", x.invoke(0, 1, 0, 0, 0), i + 1);
            Kit.due("global behind trap " + (i + 1), x.global(0, 0), 5);
            Kit.due("memory behind trap " + (i + 1), x.memory(0, 0), 6);
            Kit.due("printed behind trap " + (i + 1), x.printed(0), 7);
        }
        Mod below = doing(b(Kit.TRAP));
        WasmSandbox y = load("below", below);
        Mod above = new Mod().type(NONE).imports(0, 1).function(0, Kit.INT, 4, Kit.GSET, 0, Kit.INT, 3, Kit.INT, 9, Kit.STORE8, 0, Kit.CALL, 0).global(1, 1, 1).memory();
        Kit.loads("above", y, 1, WasmSandbox.OK, -1, above.bytes());
        Kit.traps("a trap below", y, 1, 1, WasmSandbox.UNREACHABLE, below.bodyAt(0, DOES));
        Kit.due("the global below", y.global(0, 0), 5);
        Kit.due("the memory below", y.memory(0, 0), 6);
        Kit.due("the global above", y.global(1, 0), 4);
        Kit.due("the memory above", y.memory(1, 3), 9);
    }

    private static void hostFunctions() {
        Kit.sentence("Beginning a function of a module");
        // At depth 10 and without fuel the host can be called: by CALL and by CALL_INDIRECT.
        int[] down = {Kit.GET, 0, Kit.IF, 0, Kit.GET, 0, Kit.INT, 1, Kit.SUB, Kit.CALL, 1, Kit.ELSE};
        int[] prints = {Kit.INT, 3, Kit.CALL, 0, Kit.INT, 4, Kit.INT, 0, Kit.CALL_INDIRECT, 0, Kit.END};
        Mod module = new Mod().type(b(1)).imports(0, 16).functionWith(0, b(1), j(down, spin(111, 1), prints)).table(0);
        WasmSandbox x = load("the host", module);
        Kit.gives("the host at depth 10", x, 0, 1, 0, 9);
        Kit.due("used", x.used(), 120);
        Kit.due("how many were printed", x.printed(-1), 2);
        Mod above = new Mod().type(b(1)).imports(0, 0).functionWith(0, b(1), j(down, spin(111, 1), prints)).table(0);
        Kit.loads("the host through slot 0", x, 1, WasmSandbox.OK, -1, above.bytes());
        Kit.gives("the host through slot 0 at depth 10", x, 1, 1, 0, 9);
        Kit.due("used through slot 0", x.used(), 120);
        Kit.due("how many were printed through slot 0", x.printed(-1), 4);
    }
}
