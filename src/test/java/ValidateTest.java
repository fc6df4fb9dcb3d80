/** Promises 4 and 5: VALIDATION, the places of what is INVALID, and LINK. */
public final class ValidateTest {
    private static final int[] NONE = {};
    // The places of the first instruction in Kit.single with a result and without, and no parameters.
    private static final int WITH = 8, WITHOUT = 7;

    public static void main(String[] args) {
        numbers();
        stacks();
        frames();
        branches();
        dead();
        selects();
        accesses();
        least();
        links();
        slotsStay();
        Kit.end();
    }

    private static void bad(String what, int place, int... bytes) {
        Kit.loads(what, new WasmSandbox(), 0, WasmSandbox.INVALID, place, bytes);
    }

    /** The body of a function () -> (); place counted from its first instruction. */
    private static void badBody(String what, int place, int... body) {
        bad(what, WITHOUT + place, Kit.single(NONE, 0, body));
    }

    private static void fineBody(String what, int... body) {
        Kit.loaded(what, Kit.single(NONE, 0, body));
    }

    private static void numbers() {
        badBody("a label that is not there", 0, Kit.BR, 1);
        badBody("a label of BR_IF that is not there", 2, Kit.INT, 0, Kit.BR_IF, 1);
        badBody("a label in a table that is not there", 2, Kit.INT, 0, Kit.BR_TABLE, 2, 0, 1, 0);
        badBody("a last label that is not there", 2, Kit.INT, 0, Kit.BR_TABLE, 1, 0, 1);
        badBody("label 255", 0, Kit.BR, 255);
        fineBody("the outermost label of two", Kit.BLOCK, 0, Kit.BR, 1, Kit.END);
        badBody("a function that is not there", 0, Kit.CALL, 1);
        WasmSandbox x = Kit.loaded("two functions", Kit.join(Kit.b(1, 0, 0, 0), Kit.list(Kit.function(0), Kit.function(0)), Kit.NOTHING_BEHIND));
        Kit.loads("a function that was there in the module before", x, 0, WasmSandbox.INVALID, WITHOUT, Kit.single(NONE, 0, Kit.CALL, 1));
        badBody("a type that is not there", 2, Kit.INT, 0, Kit.CALL_INDIRECT, 1);
        badBody("a variable that is not there", 0, Kit.GET, 0);
        badBody("the same with SET", 2, Kit.INT, 0, Kit.SET, 0);
        badBody("the same with TEE", 2, Kit.INT, 0, Kit.TEE, 0);
        badBody("a global that is not there", 0, Kit.GGET, 0);
        badBody("the same with GSET", 2, Kit.INT, 0, Kit.GSET, 0);
        int[] tail = Kit.b(2, 1, 0, 5, 2, 1, 6, 0, 0);
        bad("a global that may not be set", 9, Kit.join(Kit.b(1, 0, 0, 0), Kit.list(Kit.function(0, Kit.INT, 0, Kit.GSET, 0)), tail));
        bad("a long global set to an int", 9, Kit.join(Kit.b(1, 0, 0, 0), Kit.list(Kit.function(0, Kit.INT, 0, Kit.GSET, 1)), tail));
        bad("global 2 of 2", 7, Kit.join(Kit.b(1, 0, 0, 0), Kit.list(Kit.function(0, Kit.GGET, 2)), tail));
        Kit.loaded("a global that may be set", Kit.join(Kit.b(1, 0, 0, 0), Kit.list(Kit.function(0, Kit.LONG, 0, Kit.GSET, 1)), tail));
        int[] two = Kit.b(1, 1, 1, 0, 0, 1, 0, 1, 2);
        Kit.loaded("the last local", Kit.join(two, Kit.b(Kit.LONG, 0, Kit.SET, 1, Kit.END), Kit.NOTHING_BEHIND));
        bad("a local of another kind", 11, Kit.join(two, Kit.b(Kit.INT, 0, Kit.SET, 1, Kit.END), Kit.NOTHING_BEHIND));
        bad("a variable behind the last", 11, Kit.join(two, Kit.b(Kit.INT, 0, Kit.SET, 2, Kit.END), Kit.NOTHING_BEHIND));
    }

    private static void stacks() {
        badBody("DROP of nothing", 0, Kit.DROP);
        badBody("ADD of one", 2, Kit.INT, 0, Kit.ADD);
        badBody("ADD of a long", 4, Kit.INT, 0, Kit.LONG, 0, Kit.ADD);
        badBody("a long ADD of an int", 4, Kit.INT, 0, Kit.LONG, 0, Kit.ADD + Kit.L);
        badBody("a value left", 2, Kit.INT, 0);
        bad("a result that is missing", WITH, Kit.single(NONE, 1));
        bad("a result of another kind", WITH + 2, Kit.single(NONE, 1, Kit.LONG, 0));
        bad("a result too many", WITH + 4, Kit.single(NONE, 1, Kit.INT, 0, Kit.INT, 0));
        bad("RETURN without the result", WITH, Kit.single(NONE, 1, Kit.RETURN));
        bad("a parameter is not on the stack", 9, Kit.single(Kit.b(1), 1));
        bad("WRAP of an int", WITH + 2, Kit.single(NONE, 1, Kit.INT, 0, Kit.WRAP));
        bad("EXTEND of a long", WITH + 2, Kit.single(NONE, 2, Kit.LONG, 0, Kit.EXTEND));
        bad("EXTENDU of a long", WITH + 2, Kit.single(NONE, 2, Kit.LONG, 0, Kit.EXTENDU));
        bad("EXTEND gives a long", WITH + 3, Kit.single(NONE, 1, Kit.INT, 0, Kit.EXTEND));
        bad("a long EQZ gives an int", WITH + 3, Kit.single(NONE, 2, Kit.LONG, 0, Kit.EQZ + Kit.L));
        bad("a long LE gives an int", WITH + 5, Kit.single(NONE, 2, Kit.LONG, 0, Kit.LONG, 0, Kit.LE + Kit.L));
        bad("a long ADD gives a long", WITH + 5, Kit.single(NONE, 1, Kit.LONG, 0, Kit.LONG, 0, Kit.ADD + Kit.L));
        fineBody("20 on the stack", Kit.join(Kit.many(20, Kit.INT, 0), Kit.many(20, Kit.DROP)));
        badBody("21 on the stack", 40, Kit.join(Kit.many(21, Kit.INT, 0), Kit.many(21, Kit.DROP)));
        fineBody("20 on the stack and a block's result for one", Kit.join(Kit.many(19, Kit.INT, 0), Kit.b(Kit.BLOCK, 1, Kit.INT, 0, Kit.END), Kit.many(20, Kit.DROP)));
        badBody("20 around a block with one more", 42, Kit.join(Kit.many(20, Kit.INT, 0), Kit.b(Kit.BLOCK, 0, Kit.INT, 0, Kit.DROP, Kit.END), Kit.many(20, Kit.DROP)));
        badBody("20 and the result of a dead block", 43, Kit.join(Kit.many(20, Kit.INT, 0), Kit.b(Kit.BLOCK, 1, Kit.TRAP, Kit.END), Kit.many(21, Kit.DROP)));
        Kit.loaded("each body has a stack of its own", Kit.join(Kit.b(1, 0, 1, 1, 0), Kit.list(Kit.function(0, Kit.INT, 0),
            Kit.function(0, Kit.join(Kit.many(20, Kit.INT, 0), Kit.many(19, Kit.ADD)))), Kit.NOTHING_BEHIND));
        int[] calls = Kit.b(2, 2, 1, 2, 1, 2, 0, 0, 0, 2);
        int[] callee = Kit.function(0, Kit.GET, 1);
        Kit.loaded("a CALL", Kit.join(calls, callee, Kit.function(1, Kit.INT, 0, Kit.LONG, 0, Kit.CALL, 0, Kit.DROP), Kit.NOTHING_BEHIND));
        bad("a CALL with its parameters changed", 21, Kit.join(calls, callee, Kit.function(1, Kit.LONG, 0, Kit.INT, 0, Kit.CALL, 0, Kit.DROP), Kit.NOTHING_BEHIND));
        bad("a CALL whose result stays", 23, Kit.join(calls, callee, Kit.function(1, Kit.INT, 0, Kit.LONG, 0, Kit.CALL, 0), Kit.NOTHING_BEHIND));
        Kit.loaded("a CALL_INDIRECT", Kit.join(calls, callee, Kit.function(1, Kit.INT, 0, Kit.LONG, 0, Kit.INT, 0, Kit.CALL_INDIRECT, 0, Kit.DROP), Kit.NOTHING_BEHIND));
        bad("a CALL_INDIRECT without its number", 21, Kit.join(calls, callee, Kit.function(1, Kit.INT, 0, Kit.LONG, 0, Kit.CALL_INDIRECT, 0, Kit.DROP), Kit.NOTHING_BEHIND));
    }

    private static void frames() {
        fineBody("8 open with the body", Kit.join(Kit.many(7, Kit.BLOCK, 0), Kit.many(7, Kit.END)));
        badBody("9 open with the body", 14, Kit.join(Kit.many(8, Kit.BLOCK, 0), Kit.many(8, Kit.END)));
        badBody("9 open, the last a LOOP", 14, Kit.join(Kit.many(7, Kit.BLOCK, 0), Kit.b(Kit.LOOP, 0), Kit.many(8, Kit.END)));
        badBody("9 open, the last an IF", 16, Kit.join(Kit.many(7, Kit.BLOCK, 0), Kit.b(Kit.INT, 0, Kit.IF, 0), Kit.many(8, Kit.END)));
        fineBody("8 open twice", Kit.join(Kit.many(7, Kit.BLOCK, 0), Kit.many(7, Kit.END), Kit.many(7, Kit.LOOP, 0), Kit.many(7, Kit.END)));
        badBody("an IF without its int", 0, Kit.IF, 0, Kit.END);
        badBody("an IF with a result and no ELSE", 6, Kit.INT, 0, Kit.IF, 1, Kit.INT, 0, Kit.END, Kit.DROP);
        badBody("the same, dead", 5, Kit.INT, 0, Kit.IF, 1, Kit.TRAP, Kit.END, Kit.DROP);
        fineBody("an IF with a result and an ELSE", Kit.INT, 0, Kit.IF, 2, Kit.LONG, 0, Kit.ELSE, Kit.LONG, 0, Kit.END, Kit.DROP);
        badBody("an ELSE without the result", 4, Kit.INT, 0, Kit.IF, 1, Kit.ELSE, Kit.INT, 0, Kit.END, Kit.DROP);
        badBody("an ELSE with a value too many", 6, Kit.INT, 0, Kit.IF, 0, Kit.INT, 0, Kit.ELSE, Kit.END);
        badBody("an END without the result", 7, Kit.INT, 0, Kit.IF, 1, Kit.INT, 0, Kit.ELSE, Kit.END, Kit.DROP);
        badBody("a block takes nothing from outside", 4, Kit.INT, 0, Kit.BLOCK, 0, Kit.DROP, Kit.END);
        badBody("the ELSE part takes nothing from outside", 7, Kit.INT, 0, Kit.INT, 0, Kit.IF, 0, Kit.ELSE, Kit.DROP, Kit.END);
        fineBody("a block's result is there behind it", Kit.BLOCK, 2, Kit.LONG, 0, Kit.END, Kit.DROP);
        fineBody("a loop's result is there behind it", Kit.LOOP, 2, Kit.LONG, 0, Kit.END, Kit.DROP);
        // The body's frame is no IF or LOOP though it begins with one.
        Kit.loaded("a body that begins with a LOOP", Kit.single(NONE, 1, Kit.LOOP, 0, Kit.INT, 1, Kit.BR, 1, Kit.END, Kit.INT, 2));
        bad("the same without what the body wants", WITH + 2, Kit.single(NONE, 1, Kit.LOOP, 0, Kit.BR, 1, Kit.END, Kit.INT, 2));
    }

    private static void branches() {
        badBody("BR without what is wanted", 2, Kit.BLOCK, 1, Kit.BR, 0, Kit.END, Kit.DROP);
        fineBody("BR to a LOOP wants nothing", Kit.LOOP, 1, Kit.BR, 0, Kit.END, Kit.DROP);
        badBody("BR_IF takes the int first", 6, Kit.BLOCK, 2, Kit.INT, 0, Kit.LONG, 0, Kit.BR_IF, 0, Kit.END, Kit.DROP);
        fineBody("BR_IF gives again", Kit.BLOCK, 2, Kit.LONG, 0, Kit.INT, 0, Kit.BR_IF, 0, Kit.END, Kit.DROP);
        badBody("BR_IF without an int", 2, Kit.BLOCK, 0, Kit.BR_IF, 0, Kit.END);
        badBody("BR_TABLE without an int", 0, Kit.BR_TABLE, 0, 0);
        badBody("labels that want unlike", 6, Kit.BLOCK, 1, Kit.INT, 0, Kit.INT, 0, Kit.BR_TABLE, 1, 1, 0, Kit.END, Kit.DROP);
        badBody("labels that want other kinds", 8, Kit.BLOCK, 1, Kit.BLOCK, 2, Kit.LONG, 0, Kit.INT, 0, Kit.BR_TABLE, 1, 1, 0, Kit.END, Kit.DROP, Kit.INT, 0, Kit.END, Kit.DROP);
        fineBody("labels that want alike", Kit.BLOCK, 1, Kit.BLOCK, 1, Kit.INT, 0, Kit.INT, 0, Kit.BR_TABLE, 4, 0, 1, 0, 1, 0, Kit.END, Kit.END, Kit.DROP);
        fineBody("a LOOP and a body that want nothing", Kit.LOOP, 2, Kit.INT, 0, Kit.BR_TABLE, 1, 0, 1, Kit.END, Kit.DROP);
        Kit.loaded("RETURN from within", Kit.single(NONE, 1, Kit.BLOCK, 0, Kit.INT, 3, Kit.RETURN, Kit.END, Kit.INT, 4));
        bad("RETURN takes nothing from outside", WITH + 4, Kit.single(NONE, 1, Kit.INT, 3, Kit.BLOCK, 0, Kit.RETURN, Kit.END));
    }

    private static void dead() {
        for (int[] end : new int[][] {{Kit.TRAP}, {Kit.BR, 0}, {Kit.RETURN}}) {
            fineBody("what is taken of dead code " + end[0], Kit.join(end, Kit.b(Kit.ADD, Kit.DROP, Kit.DROP)));
        }
        fineBody("behind BR_TABLE", Kit.INT, 0, Kit.BR_TABLE, 0, 0, Kit.ADD, Kit.DROP);
        badBody("behind BR_IF it lives", 4, Kit.INT, 0, Kit.BR_IF, 0, Kit.DROP);
        badBody("a kind on a dead stack must fit", 3, Kit.TRAP, Kit.LONG, 0, Kit.ADD, Kit.DROP);
        badBody("a value left on a dead stack", 3, Kit.TRAP, Kit.INT, 0);
        fineBody("the stack is cut", Kit.INT, 0, Kit.LONG, 0, Kit.TRAP);
        badBody("it is cut to the innermost frame alone", 6, Kit.INT, 0, Kit.BLOCK, 0, Kit.TRAP, Kit.END);
        badBody("a new frame lives", 3, Kit.TRAP, Kit.BLOCK, 0, Kit.DROP, Kit.END);
        fineBody("behind it the outer frame is dead still", Kit.TRAP, Kit.BLOCK, 0, Kit.END, Kit.DROP);
        badBody("the ELSE part lives", 6, Kit.INT, 0, Kit.IF, 0, Kit.TRAP, Kit.ELSE, Kit.DROP, Kit.END);
        badBody("a number that is not there in dead code", 1, Kit.TRAP, Kit.BR, 1);
        badBody("no memory in dead code", 1, Kit.TRAP, Kit.LOAD8, 0, Kit.DROP);
        badBody("what a dead BR_IF gives has its kind", 5, Kit.BLOCK, 2, Kit.TRAP, Kit.BR_IF, 0, Kit.EQZ, Kit.END, Kit.DROP);
        fineBody("it is the block's result too", Kit.BLOCK, 2, Kit.TRAP, Kit.BR_IF, 0, Kit.END, Kit.DROP);
        fineBody("dead code gives a frame's result", Kit.BLOCK, 1, Kit.TRAP, Kit.END, Kit.DROP);
        badBody("and gives it in its kind", 4, Kit.BLOCK, 1, Kit.TRAP, Kit.END, Kit.EQZ + Kit.L, Kit.DROP);
        badBody("a dead BR_TABLE must have labels that want alike", 3, Kit.BLOCK, 1, Kit.TRAP, Kit.BR_TABLE, 1, 0, 1, Kit.END, Kit.DROP);
        badBody("the outer code lives behind a block that died", 4, Kit.BLOCK, 0, Kit.TRAP, Kit.END, Kit.DROP);
    }

    private static void selects() {
        fineBody("SELECT of ints", Kit.INT, 0, Kit.INT, 0, Kit.INT, 0, Kit.SELECT, Kit.DROP);
        badBody("SELECT of an int and a long", 6, Kit.INT, 0, Kit.LONG, 0, Kit.INT, 0, Kit.SELECT, Kit.DROP);
        badBody("SELECT by a long", 6, Kit.INT, 0, Kit.INT, 0, Kit.LONG, 0, Kit.SELECT, Kit.DROP);
        badBody("SELECT of one", 4, Kit.INT, 0, Kit.INT, 0, Kit.SELECT, Kit.DROP);
        badBody("SELECT gives the kind", 7, Kit.LONG, 0, Kit.LONG, 0, Kit.INT, 0, Kit.SELECT, Kit.EQZ, Kit.DROP);
        badBody("dead SELECT of one gives its kind", 6, Kit.TRAP, Kit.LONG, 0, Kit.INT, 0, Kit.SELECT, Kit.EQZ, Kit.DROP);
        fineBody("dead SELECT of one", Kit.TRAP, Kit.LONG, 0, Kit.INT, 0, Kit.SELECT, Kit.EQZ + Kit.L, Kit.DROP);
        fineBody("dead SELECT of none fits an int", Kit.TRAP, Kit.SELECT, Kit.EQZ, Kit.DROP);
        fineBody("dead SELECT of none fits a long", Kit.TRAP, Kit.SELECT, Kit.EQZ + Kit.L, Kit.DROP);
        badBody("what it gives is on the stack", 2, Kit.TRAP, Kit.SELECT);
        badBody("what fits all goes with a long as a long", 7, Kit.TRAP, Kit.SELECT, Kit.LONG, 0, Kit.INT, 0, Kit.SELECT, Kit.EQZ, Kit.DROP);
        fineBody("twice what fits all", Kit.TRAP, Kit.SELECT, Kit.INT, 0, Kit.SELECT, Kit.EQZ + Kit.L, Kit.DROP);
    }

    private static void accesses() {
        for (int op = Kit.LOAD8; op <= Kit.LOAD64; op++) {
            badBody("no memory for " + op, 2, Kit.INT, 0, op, 0, Kit.DROP);
            Kit.loaded("memory for " + op, Kit.singleWithMemory(NONE, 0, Kit.INT, 0, op, 255, Kit.DROP));
            int wrongResult = op == Kit.LOAD64 ? 1 : 2;
            bad("what " + op + " gives", WITH + 4, Kit.singleWithMemory(NONE, wrongResult, Kit.INT, 0, op, 0));
            bad("a long address for " + op, WITHOUT + 2, Kit.singleWithMemory(NONE, 0, Kit.LONG, 0, op, 0, Kit.DROP));
        }
        for (int op = Kit.STORE8; op <= Kit.STORE64; op++) {
            int right = op == Kit.STORE64 ? Kit.LONG : Kit.INT;
            int other = op == Kit.STORE64 ? Kit.INT : Kit.LONG;
            badBody("no memory for " + op, 4, Kit.INT, 0, right, 0, op, 0);
            Kit.loaded("memory for " + op, Kit.singleWithMemory(NONE, 0, Kit.INT, 0, right, 0, op, 0));
            bad("what " + op + " takes", WITHOUT + 4, Kit.singleWithMemory(NONE, 0, Kit.INT, 0, other, 0, op, 0));
            bad("a long address for " + op, WITHOUT + 4, Kit.singleWithMemory(NONE, 0, Kit.LONG, 0, right, 0, op, 0));
        }
    }

    private static void least() {
        bad("an import's type", 2, 0, 1, 0, 16, 0, 0, 0, 0);
        bad("the second import's type", 9, 2, 1, 1, 0, 0, 0, 2, 0, 16, 2, 16, 0, 0, 0, 0);
        bad("a function's type", 3, Kit.join(Kit.b(0, 0), Kit.list(Kit.function(0)), Kit.NOTHING_BEHIND));
        bad("a type before the body", 5, Kit.join(Kit.b(1, 0, 0, 0), Kit.list(Kit.function(1, Kit.DROP)), Kit.NOTHING_BEHIND));
        bad("a CALL before its function's type", 7, Kit.join(Kit.b(1, 0, 0, 0), Kit.list(Kit.function(0, Kit.CALL, 1), Kit.function(1)), Kit.NOTHING_BEHIND));
        bad("a type behind it", 8, Kit.join(Kit.b(1, 0, 0, 0), Kit.list(Kit.function(0), Kit.function(1)), Kit.NOTHING_BEHIND));
        bad("a table entry", 11, Kit.join(Kit.b(1, 0, 0, 0), Kit.list(Kit.function(0)), Kit.b(0, 3, 0, 1, 255, 0)));
        bad("a table entry 254", 11, Kit.join(Kit.b(1, 0, 0, 0), Kit.list(Kit.function(0)), Kit.b(0, 3, 255, 254, 1, 0)));
        bad("the body before the table", 7, Kit.join(Kit.b(1, 0, 0, 0), Kit.list(Kit.function(0, Kit.DROP)), Kit.b(0, 1, 1, 0)));
        bad("DATA above 48", 7, 0, 0, 0, 0, 0, 1, 1, 47, 2, 1, 1);
        bad("DATA of none above 48", 7, 0, 0, 0, 0, 0, 1, 1, 49, 0);
        bad("the second DATA above 48", 11, 0, 0, 0, 0, 0, 1, 2, 46, 2, 1, 1, 255, 0);
        bad("the table before DATA", 5, 0, 0, 0, 0, 1, 0, 1, 1, 255, 0);
        bad("INVALID before LINK", 9, 1, 0, 0, 1, 0, 99, 0, 0, 1, 7, 0);
        Kit.loaded("DATA up to 48", 0, 0, 0, 0, 0, 1, 2, 46, 2, 1, 1, 48, 0);
        Kit.loads("MALFORMED before INVALID", new WasmSandbox(), 0, WasmSandbox.MALFORMED, 10, Kit.join(Kit.b(1, 0, 0, 0), Kit.list(Kit.function(0, Kit.DROP)), Kit.b(0, 6)));
    }

    private static void links() {
        WasmSandbox x = new WasmSandbox();
        int[] print = Kit.b(1, 1, 1, 0), input = Kit.b(1, 0, 1, 1), end = Kit.b(0, 0, 0, 0);
        Kit.loads("print", x, 0, WasmSandbox.OK, -1, Kit.join(print, Kit.b(1, 0, 16), end));
        Kit.loads("input", x, 1, WasmSandbox.OK, -1, Kit.join(input, Kit.b(1, 0, 17), end));
        Kit.loads("print as input", x, 0, WasmSandbox.LINK, 6, Kit.join(input, Kit.b(1, 0, 16), end));
        Kit.loads("input as print", x, 0, WasmSandbox.LINK, 6, Kit.join(print, Kit.b(1, 0, 17), end));
        Kit.loads("print of a long", x, 0, WasmSandbox.LINK, 6, Kit.join(Kit.b(1, 1, 2, 0), Kit.b(1, 0, 16), end));
        Kit.loads("print with a result", x, 0, WasmSandbox.LINK, 7, Kit.join(Kit.b(1, 1, 1, 1, 1), Kit.b(1, 0, 16), end));
        Kit.loads("print of two", x, 0, WasmSandbox.LINK, 7, Kit.join(Kit.b(1, 2, 1, 1, 0), Kit.b(1, 0, 16), end));
        Kit.loads("input of a long", x, 0, WasmSandbox.LINK, 6, Kit.join(Kit.b(1, 0, 1, 2), Kit.b(1, 0, 17), end));
        Kit.loads("input with a parameter", x, 0, WasmSandbox.LINK, 7, Kit.join(Kit.b(1, 1, 1, 1, 1), Kit.b(1, 0, 17), end));
        Kit.loads("input without a result", x, 0, WasmSandbox.LINK, 5, Kit.join(Kit.b(1, 0, 0), Kit.b(1, 0, 17), end));
        Kit.loads("the second import", x, 0, WasmSandbox.LINK, 8, Kit.join(print, Kit.b(2, 0, 16, 0, 18), end));
        Kit.loads("the first of two", x, 0, WasmSandbox.LINK, 6, Kit.join(print, Kit.b(2, 0, 15, 0, 18), end));
        for (int what : new int[] {0, 6, 7, 15, 18, 255}) {
            Kit.loads("slot 0 with " + what, x, 0, WasmSandbox.LINK, 6, Kit.join(print, Kit.b(1, 0, what), end));
        }
        WasmSandbox y = new WasmSandbox();
        Kit.loads("slot 0 is empty", y, 1, WasmSandbox.LINK, 6, Kit.join(print, Kit.b(1, 0, 0), end));
        int[] exports = Kit.join(Kit.b(3, 1, 1, 0, 2, 1, 2, 1, 2, 1, 1, 0), Kit.b(1, 0, 16),
            Kit.list(Kit.function(1, Kit.LONG, 1), Kit.function(2), Kit.function(0)), Kit.NOTHING_BEHIND);
        Kit.loads("exports", y, 0, WasmSandbox.OK, -1, exports);
        Kit.loads("slot 0's import", y, 1, WasmSandbox.OK, -1, Kit.join(print, Kit.b(1, 0, 0), end));
        Kit.loads("slot 0's function", y, 1, WasmSandbox.OK, -1, Kit.join(Kit.b(1, 2, 1, 2, 1, 2), Kit.b(1, 0, 1), end));
        Kit.loads("slot 0's last function", y, 1, WasmSandbox.OK, -1, Kit.join(print, Kit.b(1, 0, 3), end));
        Kit.loads("a function behind it", y, 1, WasmSandbox.LINK, 6, Kit.join(print, Kit.b(1, 0, 4), end));
        Kit.loads("another result", y, 1, WasmSandbox.LINK, 8, Kit.join(Kit.b(1, 2, 1, 2, 1, 1), Kit.b(1, 0, 1), end));
        Kit.loads("no result", y, 1, WasmSandbox.LINK, 7, Kit.join(Kit.b(1, 2, 1, 2, 0), Kit.b(1, 0, 1), end));
        Kit.loads("other parameters", y, 1, WasmSandbox.LINK, 8, Kit.join(Kit.b(1, 2, 2, 1, 1, 2), Kit.b(1, 0, 1), end));
        Kit.loads("fewer parameters", y, 1, WasmSandbox.LINK, 7, Kit.join(Kit.b(1, 1, 1, 1, 2), Kit.b(1, 0, 1), end));
        Kit.loads("function 7 is no name", y, 1, WasmSandbox.LINK, 6, Kit.join(print, Kit.b(1, 0, 7), end));
    }

    private static void slotsStay() {
        WasmSandbox x = new WasmSandbox();
        int[] seven = Kit.single(NONE, 1, Kit.INT, 7);
        int[] callsIt = Kit.join(Kit.b(1, 0, 1, 1, 1, 0, 0), Kit.list(Kit.function(0, Kit.CALL, 0)), Kit.NOTHING_BEHIND);
        Kit.loads("slot 0", x, 0, WasmSandbox.OK, -1, seven);
        Kit.loads("slot 1", x, 1, WasmSandbox.OK, -1, callsIt);
        Kit.loads("MALFORMED", x, 0, WasmSandbox.MALFORMED, 0, 9);
        Kit.gives("behind MALFORMED", x, 1, 1, 7);
        Kit.loads("INVALID", x, 0, WasmSandbox.INVALID, WITHOUT, Kit.single(NONE, 0, Kit.DROP));
        Kit.gives("behind INVALID", x, 1, 1, 7);
        Kit.loads("LINK", x, 0, WasmSandbox.LINK, 6, callsIt);
        Kit.gives("behind LINK", x, 1, 1, 7);
        Kit.loads("LINK in slot 1", x, 1, WasmSandbox.LINK, 6, Kit.b(1, 0, 1, 1, 1, 0, 1, 0, 0, 0, 0));
        Kit.gives("slot 1 behind LINK", x, 1, 1, 7);
        Kit.loads("slot 1 anew", x, 1, WasmSandbox.OK, -1, Kit.single(NONE, 1, Kit.INT, 8));
        Kit.gives("slot 0 stays", x, 0, 0, 7);
        Kit.gives("slot 1 is new", x, 1, 0, 8);
        Kit.due("the same bytes again", x.load(0), WasmSandbox.OK);
        Kit.gives("slot 0 is new", x, 0, 0, 8);
        Kit.due("slot 1 is empty", x.invoke(1, 0, 0, 0, 0), WasmSandbox.BAD);
    }
}
