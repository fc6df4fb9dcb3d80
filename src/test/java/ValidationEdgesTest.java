/** The edges of VALIDATION. One method a sentence. */
public final class ValidationEdgesTest {
    private static final int[] NONE = {};
    private static final int[] I = {Kit.INT, 0}, J = {Kit.LONG, 0};
    private static final int L = Kit.L;

    public static void main(String[] args) {
        topMustBeThatKind();
        deadCountsAsThatKind();
        emptyIsInvalid();
        fitsAll();
        selectGives();
        moreThanTwenty();
        moreThanTwentyFromAll();
        labelWants();
        br();
        brIf();
        brTable();
        returns();
        trap();
        cutToTheHeight();
        deadToTheEnd();
        newFrameLives();
        endAndElseTake();
        ifWithResult();
        behindEnd();
        moreThanEight();
        frameBehindTaking();
        labelNumbers();
        functionNumbers();
        functionWithoutType();
        typeNumbers();
        variableNumbers();
        globalNumbers();
        setGlobals();
        noMemory();
        Kit.end();
    }

    private static int[] j(int[]... parts) {
        return Kit.join(parts);
    }

    private static int[] b(int... bytes) {
        return bytes;
    }

    private static Mod one(int r, int... body) {
        return new Mod().type(NONE, r == 0 ? NONE : b(r)).function(0, body);
    }

    /** A function () -> () with this body, or () -> r. */
    private static void fine(String what, int... body) {
        fineFor(0, what, body);
    }

    private static void fineFor(int r, String what, int... body) {
        Kit.loaded(what, one(r, body).bytes());
    }

    /** Its body is INVALID at the instruction behind what stands before it. */
    private static void bad(String what, int[] before, int... from) {
        badFor(0, what, before, from);
    }

    private static void badFor(int r, String what, int[] before, int... from) {
        bad(what, one(r, j(before, from)), 0, before.length);
    }

    private static void bad(String what, Mod module, int f, int k) {
        Kit.loads(what, new WasmSandbox(), 0, WasmSandbox.INVALID, module.bodyAt(f, k), module.bytes());
    }

    private static void topMustBeThatKind() {
        Kit.sentence("if the stack is above the height of the innermost frame its top is taken away and must be that kind");
        fine("an int on a long", j(J, I, b(Kit.EQZ, Kit.DROP, Kit.EQZ + L, Kit.DROP)));
        bad("a long on an int", j(I, J), Kit.EQZ, Kit.DROP, Kit.DROP);
        bad("a long, dead", j(b(Kit.TRAP), J), Kit.EQZ, Kit.DROP);
        bad("a long in a block", j(b(Kit.BLOCK, 0), J), Kit.EQZ, Kit.DROP, Kit.END);
        bad("the top stays taken away", j(I, b(Kit.EQZ, Kit.DROP)), Kit.DROP);
    }

    private static void deadCountsAsThatKind() {
        Kit.sentence("else, if the code is DEAD there, nothing is taken away and it counts as that kind");
        fine("an int and a long", Kit.TRAP, Kit.EQZ, Kit.DROP, Kit.EQZ + L, Kit.DROP);
        fine("the second of two", j(b(Kit.TRAP), I, b(Kit.ADD, Kit.DROP)));
        fine("the outer stack stays", j(I, J, b(Kit.BLOCK, 0, Kit.TRAP, Kit.DROP, Kit.EQZ, Kit.DROP, Kit.END, Kit.EQZ + L, Kit.DROP, Kit.DROP)));
        bad("and stays whole", j(I, J, b(Kit.BLOCK, 0, Kit.TRAP, Kit.DROP, Kit.EQZ, Kit.DROP, Kit.END, Kit.DROP, Kit.DROP)), Kit.DROP);
    }

    private static void emptyIsInvalid() {
        Kit.sentence("else the instruction is INVALID");
        bad("an empty stack", NONE, Kit.EQZ, Kit.DROP);
        bad("one of two", I, Kit.ADD, Kit.DROP);
        bad("at the height of a BLOCK", j(I, b(Kit.BLOCK, 0)), Kit.EQZ, Kit.DROP, Kit.END, Kit.DROP);
        bad("at the height of a LOOP", j(I, b(Kit.LOOP, 0)), Kit.EQZ, Kit.DROP, Kit.END, Kit.DROP);
        bad("at the height of an IF", j(I, I, b(Kit.IF, 0)), Kit.EQZ, Kit.DROP, Kit.END, Kit.DROP);
        bad("at the height of an ELSE", j(I, I, b(Kit.IF, 0, Kit.ELSE)), Kit.EQZ, Kit.DROP, Kit.END, Kit.DROP);
        bad("one above the height of a BLOCK", j(I, b(Kit.BLOCK, 0), I), Kit.ADD, Kit.DROP, Kit.END, Kit.DROP);
        bad("DROP of an empty stack", NONE, Kit.DROP);
        bad("DROP at the height of a BLOCK", j(I, b(Kit.BLOCK, 0)), Kit.DROP, Kit.END);
        bad("SELECT of one", j(I, I), Kit.SELECT, Kit.DROP);
        bad("SELECT of none", I, Kit.SELECT, Kit.DROP);
        bad("SELECT of one above the height", j(I, b(Kit.BLOCK, 0), I, I), Kit.SELECT, Kit.DROP, Kit.END, Kit.DROP);
    }

    private static void fitsAll() {
        Kit.sentence("of a DEAD stack that is at its height a kind that fits all, which passes for every kind");
        fine("DROP takes it", Kit.TRAP, Kit.DROP, Kit.DROP);
        for (int r = 1; r <= 2; r++) {
            int[] x = r == 1 ? I : J;
            fineFor(r, "as a result", Kit.TRAP, Kit.SELECT);
            fineFor(r, "as what RETURN takes", Kit.TRAP, Kit.SELECT, Kit.RETURN);
            fineFor(r, "as what BR takes", Kit.TRAP, Kit.SELECT, Kit.BR, 0);
            fineFor(r, "as one of SELECT", j(b(Kit.TRAP), x, I, b(Kit.SELECT)));
        }
        fine("as the int of an IF", Kit.TRAP, Kit.SELECT, Kit.IF, 0, Kit.END);
        fine("as a long", Kit.TRAP, Kit.SELECT, Kit.WRAP, Kit.DROP);
        fine("as the int of SELECT", j(b(Kit.TRAP), b(Kit.SELECT, Kit.SELECT, Kit.DROP)));
    }

    private static void selectGives() {
        Kit.sentence("SELECT gives the kind of the two, if both fit all: a kind that fits all.");
        for (int kind = 1; kind <= 2; kind++) {
            int[] x = kind == 1 ? I : J;
            fineFor(kind, "the kind of the two", j(x, x, I, b(Kit.SELECT)));
            badFor(3 - kind, "the kind of the two, not the other", j(x, x, I, b(Kit.SELECT)));
            fineFor(kind, "the second's where the stack is at its height below", j(b(Kit.TRAP), x, I, b(Kit.SELECT)));
            badFor(3 - kind, "the second's, not the other", j(b(Kit.TRAP), x, I, b(Kit.SELECT)));
            fineFor(kind, "the second's on one that fits all", j(b(Kit.TRAP, Kit.SELECT), x, I, b(Kit.SELECT)));
            badFor(3 - kind, "the second's on one that fits all, not the other", j(b(Kit.TRAP, Kit.SELECT), x, I, b(Kit.SELECT)));
            fineFor(kind, "both fit all", Kit.TRAP, Kit.SELECT);
            fineFor(kind, "both fit all, with an int", j(b(Kit.TRAP), I, b(Kit.SELECT)));
            fineFor(kind, "both fit all, one of them given by SELECT", j(b(Kit.TRAP, Kit.SELECT), I, b(Kit.SELECT)));
        }
        bad("an int and a long", j(I, J, I), Kit.SELECT, Kit.DROP);
        bad("a long and an int", j(J, I, I), Kit.SELECT, Kit.DROP);
        bad("what fits all is on the stack", j(b(Kit.TRAP), I, b(Kit.SELECT)));
    }

    private static void moreThanTwenty() {
        Kit.sentence("Giving a kind puts it on the stack; more than 20 there: INVALID.");
        int[] twenty = Kit.many(20, I), drops = Kit.many(20, Kit.DROP);
        fine("20", j(twenty, drops));
        bad("21", twenty, j(I, drops, b(Kit.DROP)));
        fine("20 again", j(twenty, b(Kit.DROP), I, drops));
        fine("19 in a block with one outside", j(I, b(Kit.BLOCK, 0), Kit.many(19, I), Kit.many(19, Kit.DROP), b(Kit.END, Kit.DROP)));
        bad("20 in a block with one outside", j(I, b(Kit.BLOCK, 0), Kit.many(19, I)), j(I, drops, b(Kit.END, Kit.DROP)));
        fine("20 behind a cut", j(twenty, b(Kit.TRAP), twenty, drops));
        bad("21 behind a cut", j(twenty, b(Kit.TRAP), twenty), j(I, b(Kit.TRAP)));
        fineFor(1, "20, one of them the result", j(twenty, b(Kit.RETURN)));
        WasmSandbox x = Kit.loaded("20 in each body", new Mod().type(NONE, 1).function(0, j(twenty, b(Kit.RETURN))).function(0, j(twenty, b(Kit.RETURN))).bytes());
        Mod tooMany = one(1, j(twenty, I, b(Kit.RETURN)));
        Kit.loads("21", x, 0, WasmSandbox.INVALID, tooMany.bodyAt(0, 40), tooMany.bytes());
        Kit.loads("20 behind a load with 21", x, 0, WasmSandbox.OK, -1, one(1, j(twenty, b(Kit.RETURN))).bytes());
    }

    /** With 20 below, whatever is given in a dead block is too much. */
    private static void moreThanTwentyFromAll() {
        Kit.sentence("more than 20 there: INVALID");
        int[][] givers = {I, J, {Kit.GET, 0}, {Kit.TEE, 0}, {Kit.GGET, 0}, {Kit.CALL, 0}, {Kit.CALL_INDIRECT, 0}, {Kit.SELECT}, {Kit.LOAD8, 0}, {Kit.LOAD32, 0}, {Kit.LOAD64, 0},
            {Kit.EQZ}, {Kit.LE}, {Kit.SHRU}, {Kit.EQZ + L}, {Kit.LE + L}, {Kit.SHRU + L}, {Kit.WRAP}, {Kit.EXTEND}, {Kit.EXTENDU}};
        for (int[] giver : givers) {
            Kit.loaded("instruction " + giver[0] + " on 19", deadOn(19, giver).bytes());
            bad("instruction " + giver[0] + " on 20", deadOn(20, giver), 0, 43);
        }
        for (int[] taker : new int[][] {{Kit.DROP}, {Kit.SET, 0}, {Kit.GSET, 0}, {Kit.STORE8, 0}, {Kit.NOP}, {Kit.BR_IF, 0}}) {
            Kit.loaded("instruction " + taker[0] + " on 20", deadOn(20, taker).bytes());
        }
        Kit.loaded("a frame's result on 19", deadOn(19, Kit.BLOCK, 1, Kit.TRAP, Kit.END).bytes());
        bad("a frame's result on 20", deadOn(20, Kit.BLOCK, 1, Kit.TRAP, Kit.END), 0, 46);
        bad("what BR_IF gives again on 20", deadOn(20, Kit.BR_IF, 1), 0, 43);
        fine("BR_IF gives again what it took of 20", j(b(Kit.BLOCK, 1), Kit.many(20, I), b(Kit.BR_IF, 0), I, b(Kit.TRAP, Kit.END, Kit.DROP)));
    }

    /** So many ints, and then this at the 43rd byte (with 20 of them), where nothing has to be there. */
    private static Mod deadOn(int n, int... body) {
        int[] all = j(Kit.many(n, I), b(Kit.BLOCK, 0, Kit.TRAP), body, b(Kit.TRAP, Kit.END, Kit.TRAP));
        return new Mod().type(NONE, 1).functionWith(0, b(1), all).global(1, 1, 0).memory();
    }

    private static void labelWants() {
        Kit.sentence("A label WANTS: the result of its BLOCK or IF, of the body its function's result; for a LOOP nothing.");
        for (int t = 1; t <= 2; t++) {
            int[] x = t == 1 ? I : J, other = t == 1 ? J : I;
            fine("a BLOCK", j(b(Kit.BLOCK, t), x, b(Kit.BR, 0, Kit.END, Kit.DROP)));
            bad("a BLOCK wants its result", b(Kit.BLOCK, t), Kit.BR, 0, Kit.END, Kit.DROP);
            bad("a BLOCK wants its kind", j(b(Kit.BLOCK, t), other), Kit.BR, 0, Kit.END, Kit.DROP);
            fine("an IF", j(I, b(Kit.IF, t), x, b(Kit.BR, 0, Kit.ELSE), x, b(Kit.BR, 0, Kit.END, Kit.DROP)));
            bad("an IF wants its result", j(I, b(Kit.IF, t)), Kit.BR, 0, Kit.ELSE, Kit.TRAP, Kit.END, Kit.DROP);
            bad("an IF wants its result behind its ELSE", j(I, b(Kit.IF, t, Kit.TRAP, Kit.ELSE)), Kit.BR, 0, Kit.END, Kit.DROP);
            fineFor(t, "the body", j(x, b(Kit.BR, 0)));
            badFor(t, "the body wants its function's result", NONE, Kit.BR, 0);
            badFor(t, "the body wants its function's kind", other, Kit.BR, 0);
            fine("a LOOP wants nothing", Kit.LOOP, t, Kit.BR, 0, Kit.END, Kit.DROP);
            fineFor(t, "a body that begins with a LOOP", j(b(Kit.LOOP, 0), x, b(Kit.BR, 1, Kit.END), x));
            badFor(t, "a body that begins with a LOOP wants its result", b(Kit.LOOP, 0), j(b(Kit.BR, 1, Kit.END), x));
        }
        bad("a BLOCK before a LOOP", b(Kit.BLOCK, 1), Kit.BR, 0, Kit.END, Kit.DROP, Kit.LOOP, 0, Kit.END);
        fine("a LOOP before a BLOCK", j(b(Kit.LOOP, 1, Kit.BR, 0, Kit.END, Kit.DROP, Kit.BLOCK, 0, Kit.END)));
        fine("a BLOCK without a result wants nothing", Kit.BLOCK, 0, Kit.BR, 0, Kit.END);
        fine("a body without a result wants nothing", Kit.BR, 0);
    }

    private static void br() {
        Kit.sentence("BR takes what its label wants, then the code is DEAD");
        fine("the top is taken, the rest is cut", j(b(Kit.BLOCK, 1), J, I, b(Kit.BR, 0, Kit.END, Kit.DROP)));
        bad("what is wanted is outside", j(I, b(Kit.BLOCK, 1)), Kit.BR, 0, Kit.END, Kit.DROP, Kit.DROP);
        fine("behind it is dead code", Kit.BR, 0, Kit.ADD, Kit.DROP);
        fine("an outer label", j(b(Kit.BLOCK, 2, Kit.BLOCK, 0), J, b(Kit.BR, 1, Kit.END), J, b(Kit.END, Kit.DROP)));
        bad("the innermost frame alone is dead", b(Kit.BLOCK, 0, Kit.BLOCK, 0, Kit.BR, 1, Kit.END), Kit.DROP, Kit.END);
    }

    private static void brIf() {
        Kit.sentence("BR_IF takes i, then what its label wants, and gives that again");
        fine("both", j(b(Kit.BLOCK, 2), J, I, b(Kit.BR_IF, 0, Kit.END, Kit.DROP)));
        bad("no i", j(b(Kit.BLOCK, 2), J), Kit.BR_IF, 0, Kit.END, Kit.DROP);
        bad("i alone", j(b(Kit.BLOCK, 2), I), Kit.BR_IF, 0, Kit.END, Kit.DROP);
        bad("i below", j(b(Kit.BLOCK, 2), I, J), Kit.BR_IF, 0, Kit.END, Kit.DROP);
        bad("i is gone", j(b(Kit.BLOCK, 0), I, b(Kit.BR_IF, 0)), Kit.DROP, Kit.END);
        bad("a long is given again", j(b(Kit.BLOCK, 2), J, I, b(Kit.BR_IF, 0)), Kit.EQZ, Kit.TRAP, Kit.END, Kit.DROP);
        bad("dead, it gives its label's kind", b(Kit.BLOCK, 2, Kit.TRAP, Kit.BR_IF, 0), Kit.EQZ, Kit.TRAP, Kit.END, Kit.DROP);
        fine("for a LOOP it takes i alone", j(b(Kit.LOOP, 2), I, b(Kit.BR_IF, 0), J, b(Kit.END, Kit.DROP)));
        bad("behind it the code is not dead", j(I, b(Kit.BR_IF, 0)), Kit.DROP);
    }

    private static void brTable() {
        Kit.sentence("BR_TABLE takes i, then what the last label wants (all labels must want alike), then DEAD");
        fine("both", j(b(Kit.BLOCK, 2), J, I, b(Kit.BR_TABLE, 0, 0, Kit.END, Kit.DROP)));
        bad("no i", j(b(Kit.BLOCK, 2), J), Kit.BR_TABLE, 0, 0, Kit.END, Kit.DROP);
        bad("i alone", j(b(Kit.BLOCK, 2), I), Kit.BR_TABLE, 0, 0, Kit.END, Kit.DROP);
        fine("behind it is dead code", j(I, b(Kit.BR_TABLE, 0, 0, Kit.ADD, Kit.DROP)));
        for (int i = 0; i < 5; i++) {
            int[] labels = {0, 0, 0, 0, 0};
            labels[i] = 1;
            int[] table = j(b(Kit.BR_TABLE, 4), labels, b(Kit.END));
            bad("label " + i + " wants an int, the others nothing", j(b(Kit.BLOCK, 1), I, b(Kit.BLOCK, 0), I, I), j(table, b(Kit.END, Kit.DROP)));
            bad("label " + i + " wants an int, the others a long", j(b(Kit.BLOCK, 1, Kit.BLOCK, 2), J, I), j(table, b(Kit.DROP), I, b(Kit.END, Kit.DROP)));
            bad("the same, dead", b(Kit.BLOCK, 1, Kit.BLOCK, 2, Kit.TRAP), j(table, b(Kit.DROP), I, b(Kit.END, Kit.DROP)));
            fine("label " + i + " wants alike", j(b(Kit.BLOCK, 2, Kit.BLOCK, 2), J, I, table, b(Kit.END, Kit.DROP)));
        }
        bad("what stands behind six blocks and a BR_TABLE", j(Kit.many(6, Kit.BLOCK, 0), I, b(Kit.BR_TABLE, 0, 6), Kit.many(6, Kit.END)), Kit.DROP);
        fine("a LOOP with a result wants like a BLOCK without", j(b(Kit.BLOCK, 0, Kit.LOOP, 2), I, b(Kit.BR_TABLE, 1, 0, 1, Kit.END, Kit.DROP, Kit.END)));
    }

    private static void returns() {
        Kit.sentence("RETURN takes the function's result, DEAD");
        fine("no result", Kit.RETURN, Kit.ADD, Kit.DROP);
        for (int r = 1; r <= 2; r++) {
            int[] x = r == 1 ? I : J, other = r == 1 ? J : I;
            fineFor(r, "the result", j(x, b(Kit.RETURN)));
            badFor(r, "no result is there", NONE, Kit.RETURN);
            badFor(r, "another kind is there", other, Kit.RETURN);
            badFor(r, "the result is outside", j(x, b(Kit.BLOCK, 0)), Kit.RETURN, Kit.END);
            fineFor(r, "from within a block of another kind", j(b(Kit.BLOCK, 3 - r), x, b(Kit.RETURN, Kit.END, Kit.TRAP)));
        }
    }

    private static void trap() {
        Kit.sentence("TRAP: DEAD");
        fine("behind it is dead code", Kit.TRAP, Kit.ADD, Kit.DROP);
        fineFor(2, "no result is there", Kit.TRAP);
        fine("it takes nothing from outside", j(I, b(Kit.BLOCK, 0, Kit.TRAP, Kit.END, Kit.DROP)));
    }

    private static void cutToTheHeight() {
        Kit.sentence("DEAD: the stack is cut to the height of the innermost frame");
        int[][] ends = {{Kit.TRAP}, {Kit.RETURN}, {Kit.BR, 0}, {Kit.INT, 0, Kit.BR_TABLE, 0, 0}};
        for (int[] end : ends) {
            fine("what was above is gone", j(J, J, end));
            fine("and doesn't stand for what is taken", j(J, end, b(Kit.EQZ, Kit.DROP)));
            fine("in a block", j(b(Kit.BLOCK, 0), J, end, b(Kit.EQZ, Kit.DROP, Kit.END)));
            fine("what is below stays", j(J, b(Kit.BLOCK, 0), I, end, b(Kit.END, Kit.EQZ + L, Kit.DROP)));
            bad("what is below stays to the end", j(J, b(Kit.BLOCK, 0), I, end, b(Kit.END)));
        }
    }

    private static void deadToTheEnd() {
        Kit.sentence("the code directly in that frame is DEAD to its end (or its ELSE)");
        fine("up to the END", Kit.BLOCK, 0, Kit.TRAP, Kit.NOP, Kit.DROP, Kit.END);
        fine("behind a block in it", Kit.TRAP, Kit.BLOCK, 0, Kit.END, Kit.DROP);
        fine("up to the ELSE", j(I, b(Kit.IF, 0, Kit.TRAP, Kit.NOP, Kit.DROP, Kit.ELSE, Kit.END)));
        bad("not behind its END", b(Kit.BLOCK, 0, Kit.TRAP, Kit.END), Kit.DROP);
        bad("not behind its ELSE", j(I, b(Kit.IF, 0, Kit.TRAP, Kit.ELSE)), Kit.DROP, Kit.END);
        bad("not behind the END of a dead ELSE part", j(I, b(Kit.IF, 0, Kit.ELSE, Kit.TRAP, Kit.END)), Kit.DROP);
    }

    private static void newFrameLives() {
        Kit.sentence("a new frame is not DEAD at its beginning, wherever it stands");
        bad("a BLOCK", b(Kit.TRAP, Kit.BLOCK, 0), Kit.DROP, Kit.END);
        bad("a LOOP", b(Kit.TRAP, Kit.LOOP, 0), Kit.DROP, Kit.END);
        bad("an IF", b(Kit.TRAP, Kit.IF, 0), Kit.DROP, Kit.END);
        bad("a BLOCK in the place of a dead one", b(Kit.BLOCK, 0, Kit.TRAP, Kit.END, Kit.BLOCK, 0), Kit.DROP, Kit.END);
        bad("a BLOCK with a result", b(Kit.TRAP, Kit.BLOCK, 1), Kit.END, Kit.DROP);
        bad("the next body", new Mod().type(NONE).function(0, Kit.TRAP).function(0, Kit.DROP), 1, 0);
    }

    private static void endAndElseTake() {
        Kit.sentence("END and ELSE take the frame's result, and the stack must then be at the frame's height.");
        for (int t = 1; t <= 2; t++) {
            int[] x = t == 1 ? I : J, other = t == 1 ? J : I;
            for (int op = Kit.BLOCK; op <= Kit.LOOP; op++) {
                fine("the result of " + op, j(b(op, t), x, b(Kit.END, Kit.DROP)));
                bad("no result of " + op, b(op, t), Kit.END, Kit.DROP);
                bad("another result of " + op, j(b(op, t), other), Kit.END, Kit.DROP);
                bad("a result of " + op + " too many", j(b(op, t), x, x), Kit.END, Kit.DROP);
                bad("a result of " + op + " that has none", j(b(op, 0), x), Kit.END);
                bad("the result of " + op + " is outside", j(x, b(op, t)), Kit.END, Kit.DROP, Kit.DROP);
            }
            int[] first = j(I, b(Kit.IF, t)), both = j(first, x, b(Kit.ELSE));
            fine("both results of an IF", j(both, x, b(Kit.END, Kit.DROP)));
            bad("no result before ELSE", first, j(b(Kit.ELSE), x, b(Kit.END, Kit.DROP)));
            bad("another result before ELSE", j(first, other), j(b(Kit.ELSE), x, b(Kit.END, Kit.DROP)));
            bad("a result too many before ELSE", j(first, x, x), j(b(Kit.ELSE), x, b(Kit.END, Kit.DROP)));
            bad("no result behind ELSE", both, Kit.END, Kit.DROP);
            bad("another result behind ELSE", j(both, other), Kit.END, Kit.DROP);
            bad("a result too many behind ELSE", j(both, x, x), Kit.END, Kit.DROP);
            bad("a result before the ELSE of an IF that has none", j(I, b(Kit.IF, 0), x), Kit.ELSE, Kit.END);
            bad("a result in an IF that has none", j(I, b(Kit.IF, 0), x), Kit.END);
            fineFor(t, "the body's result", x);
            badFor(t, "no result of the body", NONE);
            badFor(t, "another result of the body", other);
            badFor(t, "a result of the body too many", j(x, x));
            bad("a result of a body that has none", x);
            bad("dead code that gives a result too many", j(b(Kit.BLOCK, t, Kit.TRAP), x, x), Kit.END, Kit.DROP);
            bad("dead code that gives another result", j(b(Kit.BLOCK, t, Kit.TRAP), other), Kit.END, Kit.DROP);
        }
    }

    private static void ifWithResult() {
        Kit.sentence("An IF with a result must have an ELSE (else its END is INVALID).");
        for (int t = 1; t <= 2; t++) {
            int[] x = t == 1 ? I : J;
            bad("no ELSE", j(I, b(Kit.IF, t), x), Kit.END, Kit.DROP);
            bad("no ELSE behind dead code", j(I, b(Kit.IF, t, Kit.TRAP)), Kit.END, Kit.DROP);
            bad("no ELSE in dead code", b(Kit.TRAP, Kit.IF, t, Kit.TRAP), Kit.END, Kit.DROP);
            bad("an ELSE of the inner IF alone", j(I, b(Kit.IF, t), I, b(Kit.IF, 0, Kit.ELSE, Kit.END), x), Kit.END, Kit.DROP);
            fine("an ELSE around an inner IF", j(I, b(Kit.IF, t), I, b(Kit.IF, 0, Kit.END), x, b(Kit.ELSE), x, b(Kit.END, Kit.DROP)));
            fine("an ELSE of dead code", j(I, b(Kit.IF, t, Kit.TRAP, Kit.ELSE, Kit.TRAP, Kit.END, Kit.DROP)));
        }
        fine("no result and no ELSE", j(I, b(Kit.IF, 0, Kit.END)));
    }

    private static void behindEnd() {
        Kit.sentence("Behind END the frame is gone and its result is given.");
        for (int t = 1; t <= 2; t++) {
            int[] x = t == 1 ? I : J;
            fineFor(t, "a BLOCK's", j(b(Kit.BLOCK, t), x, b(Kit.END)));
            fineFor(t, "a LOOP's", j(b(Kit.LOOP, t), x, b(Kit.END)));
            fineFor(t, "an IF's", j(I, b(Kit.IF, t), x, b(Kit.ELSE), x, b(Kit.END)));
            fineFor(t, "a dead BLOCK's", Kit.BLOCK, t, Kit.TRAP, Kit.END);
            badFor(3 - t, "a dead BLOCK's in its kind", b(Kit.BLOCK, t, Kit.TRAP, Kit.END));
        }
        bad("none is given", b(Kit.BLOCK, 0, Kit.END), Kit.DROP);
        bad("the label is gone", b(Kit.BLOCK, 0, Kit.END), Kit.BR, 1);
        fine("what is below can be taken again", j(I, b(Kit.BLOCK, 0, Kit.END, Kit.DROP)));
    }

    private static void moreThanEight() {
        Kit.sentence("more than 8 open with the body: INVALID");
        for (int op = Kit.BLOCK; op <= Kit.IF; op++) {
            int[] i = op == Kit.IF ? I : NONE;
            int[] open = j(i, b(op, 0));
            fine("8 with " + op, j(Kit.many(7, open), Kit.many(7, Kit.END)));
            bad("9 with " + op, j(Kit.many(7, open), i), j(b(op, 0), Kit.many(8, Kit.END)));
            bad("9 with " + op + ", dead", j(Kit.many(7, open), b(Kit.TRAP)), j(b(op, 0), Kit.many(8, Kit.END)));
            fine("8 again with " + op, j(Kit.many(7, open), b(Kit.END), open, Kit.many(7, Kit.END)));
        }
        int[] six = Kit.many(6, Kit.BLOCK, 0), ends = Kit.many(6, Kit.END);
        bad("the eighth has its own height", j(six, I, b(Kit.BLOCK, 0)), j(b(Kit.DROP, Kit.END), ends));
        bad("the eighth has its own height for EQZ", j(six, I, b(Kit.BLOCK, 0)), j(b(Kit.EQZ, Kit.DROP, Kit.END), ends));
        fine("the eighth is dead for itself", j(six, I, b(Kit.BLOCK, 0), J, b(Kit.TRAP, Kit.EQZ, Kit.DROP, Kit.DROP, Kit.END, Kit.DROP), ends));
        bad("the seventh is not dead with it", j(six, b(Kit.BLOCK, 0, Kit.TRAP, Kit.END)), j(b(Kit.DROP), ends));
        fine("the eighth has its own result", j(six, b(Kit.BLOCK, 2), J, b(Kit.BR, 0, Kit.END, Kit.EQZ + L, Kit.DROP), ends));
        bad("the eighth wants its own result", j(six, b(Kit.BLOCK, 2)), j(b(Kit.BR, 0, Kit.END, Kit.DROP), ends));
        int[] seven = j(Kit.many(7, Kit.BLOCK, 0), Kit.many(7, Kit.END));
        Kit.loaded("8 in each body", new Mod().type(NONE).function(0, seven).function(0, seven).bytes());
        bad("9 in the second body", new Mod().type(NONE).function(0).function(0, j(Kit.many(8, Kit.BLOCK, 0), Kit.many(8, Kit.END))), 1, 14);
    }

    private static void frameBehindTaking() {
        Kit.sentence("BLOCK, LOOP, IF (behind taking i) make a frame");
        fine("an IF's height is below its i", j(I, b(Kit.IF, 0, Kit.END)));
        bad("an IF without its i", NONE, Kit.IF, 0, Kit.END);
        bad("an IF with a long", J, Kit.IF, 0, Kit.END);
        bad("an IF with its i outside", j(I, b(Kit.BLOCK, 0)), Kit.IF, 0, Kit.END, Kit.END, Kit.DROP);
        fine("a BLOCK takes nothing", j(I, b(Kit.BLOCK, 0, Kit.END, Kit.DROP)));
        fine("a LOOP takes nothing", j(I, b(Kit.LOOP, 0, Kit.END, Kit.DROP)));
    }

    // ---- Numbers that are not there

    private static void labelNumbers() {
        Kit.sentence("Numbers of labels .. that are not there .. : INVALID");
        for (int open = 0; open <= 7; open++) {
            int[] blocks = Kit.many(open, Kit.BLOCK, 0), ends = Kit.many(open, Kit.END);
            fine("BR to the outermost", j(blocks, b(Kit.BR, open), ends));
            for (int d : new int[] {open + 1, 255}) {
                bad("BR " + d, blocks, j(b(Kit.BR, d), ends));
                bad("BR_IF " + d, j(blocks, I), j(b(Kit.BR_IF, d), ends));
                bad("BR " + d + ", dead", j(blocks, b(Kit.TRAP)), j(b(Kit.BR, d), ends));
                bad("BR_IF " + d + ", dead", j(blocks, b(Kit.TRAP)), j(b(Kit.BR_IF, d), ends));
                bad("the last of BR_TABLE " + d, j(blocks, I), j(b(Kit.BR_TABLE, 1, 0, d), ends));
                for (int i = 0; i < 4; i++) {
                    int[] labels = {0, 0, 0, 0, 0};
                    labels[i] = d;
                    bad("label " + i + " of BR_TABLE " + d, j(blocks, I), j(b(Kit.BR_TABLE, 4), labels, ends));
                }
            }
        }
    }

    private static void functionNumbers() {
        Kit.sentence("Numbers of .. functions .. that are not there .. : INVALID");
        bad("one function: 1", NONE, Kit.CALL, 1);
        bad("one function: 255", NONE, Kit.CALL, 255);
        bad("one function: 1, dead", b(Kit.TRAP), Kit.CALL, 1);
        Mod two = new Mod().type(NONE).type(NONE, 1).imports(1, 17).function(0, Kit.CALL, 1).function(0);
        Kit.loaded("an import counts", two.bytes());
        bad("an import and two functions: 3", new Mod().type(NONE).type(NONE, 1).imports(1, 17).function(0, Kit.CALL, 3).function(0), 0, 0);
        WasmSandbox x = Kit.loaded("more functions before", new Mod().type(NONE).function(0).function(0).function(0).bytes());
        Mod one = one(0, Kit.CALL, 1);
        Kit.loads("a function of the module before", x, 0, WasmSandbox.INVALID, one.bodyAt(0, 0), one.bytes());
        WasmSandbox y = Kit.loaded("a longer module before", new Mod().type(NONE).function(0, Kit.NOP, Kit.NOP).function(0).bytes());
        Kit.loads("a function of the longer module before", y, 0, WasmSandbox.INVALID, one.bodyAt(0, 0), one.bytes());
    }

    private static void functionWithoutType() {
        Kit.sentence("a function whose type is not there counts as not there");
        for (int type : new int[] {1, 4, 255}) {
            bad("type " + type, new Mod().type(NONE).function(0, Kit.CALL, 1).function(type), 0, 0);
            bad("type " + type + ", dead", new Mod().type(NONE).function(0, Kit.TRAP, Kit.CALL, 1).function(type), 0, 1);
        }
    }

    private static void typeNumbers() {
        Kit.sentence("Numbers of .. types .. that are not there .. : INVALID");
        for (int type : new int[] {1, 2, 4, 255}) {
            bad("type " + type, I, Kit.CALL_INDIRECT, type);
            bad("type " + type + ", dead", b(Kit.TRAP), Kit.CALL_INDIRECT, type);
        }
        Kit.loaded("the fourth type", new Mod().type(NONE).type(NONE).type(NONE).type(NONE).function(0, j(I, b(Kit.CALL_INDIRECT, 3))).bytes());
        bad("a fifth type", new Mod().type(NONE).type(NONE).type(NONE).type(NONE).function(0, j(I, b(Kit.CALL_INDIRECT, 4))), 0, 2);
    }

    private static void variableNumbers() {
        Kit.sentence("Numbers of .. variables .. that are not there .. : INVALID");
        for (int p = 0; p <= 3; p++) {
            for (int l = 0; l <= 3; l++) {
                int[] parameters = Kit.many(p, 1), locals = Kit.many(l, 1);
                for (int v = 0; v < p + l; v++) {
                    Kit.loaded("variable " + v, new Mod().type(parameters).functionWith(0, locals, Kit.GET, v, Kit.TEE, v, Kit.SET, v).bytes());
                }
                for (int v : new int[] {p + l, p + l + 1, 255}) {
                    bad("GET " + v, new Mod().type(parameters).functionWith(0, locals, Kit.GET, v, Kit.DROP), 0, 0);
                    bad("SET " + v, new Mod().type(parameters).functionWith(0, locals, j(I, b(Kit.SET, v))), 0, 2);
                    bad("TEE " + v, new Mod().type(parameters).functionWith(0, locals, j(I, b(Kit.TEE, v, Kit.DROP))), 0, 2);
                    bad("SET " + v + ", dead", new Mod().type(parameters).functionWith(0, locals, Kit.TRAP, Kit.SET, v), 0, 1);
                }
            }
        }
    }

    private static void globalNumbers() {
        Kit.sentence("Numbers of .. globals that are not there .. : INVALID");
        for (int n = 0; n <= 3; n++) {
            for (int g : new int[] {n, n + 1, 255}) {
                bad("GGET " + g, withGlobals(n, Kit.GGET, g, Kit.DROP), 0, 0);
                bad("GSET " + g, withGlobals(n, Kit.INT, 0, Kit.GSET, g), 0, 2);
                bad("GSET " + g + ", dead", withGlobals(n, Kit.TRAP, Kit.GSET, g), 0, 1);
            }
            if (n > 0) {
                Kit.loaded("the last of " + n, withGlobals(n, Kit.GGET, n - 1, Kit.GSET, n - 1).bytes());
            }
        }
    }

    private static Mod withGlobals(int n, int... body) {
        Mod module = new Mod().type(NONE).function(0, body);
        for (int i = 0; i < n; i++) {
            module.global(1, 1, 0);
        }
        return module;
    }

    private static void setGlobals() {
        Kit.sentence("GSET of a global that may not be set .. : INVALID");
        for (int g = 0; g < 3; g++) {
            bad("GSET " + g, fixed(g, Kit.INT, 0, Kit.GSET, g), 0, 2);
            bad("GSET " + g + ", dead", fixed(g, Kit.TRAP, Kit.GSET, g), 0, 1);
            Kit.loaded("GSET of the next", fixed(g, Kit.GGET, g, Kit.GSET, (g + 1) % 3).bytes());
        }
    }

    private static Mod fixed(int g, int... body) {
        Mod module = new Mod().type(NONE).function(0, body);
        for (int i = 0; i < 3; i++) {
            module.global(1, i == g ? 0 : 1, 0);
        }
        return module;
    }

    private static void noMemory() {
        Kit.sentence("a memory instruction without memory: INVALID");
        for (int op = Kit.LOAD8; op <= Kit.STORE64; op++) {
            int[] operands = op < Kit.STORE8 ? I : op == Kit.STORE64 ? j(I, J) : j(I, I);
            bad("instruction " + op, operands, op, 0, Kit.TRAP);
            bad("instruction " + op + ", dead", b(Kit.TRAP), op, 0, Kit.TRAP);
            Kit.loaded("instruction " + op + " with memory", new Mod().type(NONE).function(0, j(operands, b(op, 0, Kit.TRAP))).memory().bytes());
        }
    }
}
