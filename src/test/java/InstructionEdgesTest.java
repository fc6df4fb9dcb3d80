/** What each instruction takes and gives, as VALIDATION sees it: too few, another kind, too many. */
public final class InstructionEdgesTest {
    private static final int[] NONE = {};

    public static void main(String[] args) {
        plain();
        calls();
        dropsAndSelects();
        variables();
        constants();
        accesses();
        numbers();
        conversions();
        Kit.end();
    }

    private static void plain() {
        Kit.sentence("1 NOP");
        row("", 0, Kit.NOP);
    }

    private static void calls() {
        Kit.sentence("11 CALL f  (its parameters -> its result)");
        row("ili", 2, Kit.CALL, 1);
        row("l", 0, Kit.CALL, 2);
        row("", 1, Kit.CALL, 3);
        Kit.sentence("12 CALL_INDIRECT type  (its parameters, i -> its result)");
        row("ilii", 2, Kit.CALL_INDIRECT, 1);
        row("li", 0, Kit.CALL_INDIRECT, 2);
        row("i", 1, Kit.CALL_INDIRECT, 3);
    }

    private static void dropsAndSelects() {
        Kit.sentence("13 DROP  (x ->)");
        for (String x : new String[] {"i", "l"}) {
            fine("DROP of " + x, 0, body(x, Kit.DROP));
            rest(x, 0, Kit.DROP);
        }
        invalid("DROP of nothing", 0, 0, body("", Kit.DROP));
        Kit.sentence("14 SELECT  (x x i -> x, both of one kind)");
        takes("iii", 1, Kit.SELECT);
        rest("iii", 1, Kit.SELECT);
        takes("lli", 2, Kit.SELECT);
        rest("lli", 2, Kit.SELECT);
    }

    private static void variables() {
        for (int v = 0; v < 2; v++) {
            String x = v == 0 ? "i" : "l";
            Kit.sentence("15 GET v  (-> x)");
            row("", v + 1, Kit.GET, v);
            Kit.sentence("16 SET v  (x ->)");
            row(x, 0, Kit.SET, v);
            Kit.sentence("17 TEE v  (x -> x)");
            row(x, v + 1, Kit.TEE, v);
            Kit.sentence("18 GGET g  (-> x)");
            row("", v + 1, Kit.GGET, v);
            Kit.sentence("19 GSET g  (x ->)");
            row(x, 0, Kit.GSET, v);
        }
    }

    private static void constants() {
        Kit.sentence("20 CONST int  (-> i)");
        row("", 1, Kit.INT, 0);
        Kit.sentence("21 CONST long  (-> l)");
        row("", 2, Kit.LONG, 0);
    }

    private static void accesses() {
        Kit.sentence("22 LOAD8 o  (i -> i)   23 LOAD32 o  (i -> i)   24 LOAD64 o  (i -> l)");
        row("i", 1, Kit.LOAD8, 0);
        row("i", 1, Kit.LOAD32, 0);
        row("i", 2, Kit.LOAD64, 0);
        Kit.sentence("25 STORE8 o  (i i ->)   26 STORE32 o  (i i ->)   27 STORE64 o  (i l ->)");
        row("ii", 0, Kit.STORE8, 0);
        row("ii", 0, Kit.STORE32, 0);
        row("il", 0, Kit.STORE64, 0);
    }

    private static void numbers() {
        Kit.sentence("28 EQZ  (i -> i)");
        row("i", 1, Kit.EQZ);
        Kit.sentence("46 EQZ  (l -> i)");
        row("l", 1, Kit.EQZ + Kit.L);
        for (int op = Kit.EQ; op <= Kit.SHRU; op++) {
            Kit.sentence("(i i -> i)");
            row("ii", 1, op);
            Kit.sentence("47 to 51 (l l -> i), 52 to 63 (l l -> l)");
            row("ll", op < Kit.ADD ? 1 : 2, op + Kit.L);
        }
    }

    private static void conversions() {
        Kit.sentence("64 WRAP  (l -> i)   65 EXTEND  (i -> l)   66 EXTENDU  (i -> l)");
        row("l", 1, Kit.WRAP);
        row("i", 2, Kit.EXTEND);
        row("i", 2, Kit.EXTENDU);
    }

    // ---- What a row is tested for

    private static void row(String operands, int gives, int... instruction) {
        takes(operands, gives, instruction);
        rest(operands, gives, instruction);
        dead(operands, gives, instruction);
    }

    /** Its operands, no fewer and of no other kind; what it gives, and of no other kind. */
    private static void takes(String operands, int gives, int... instruction) {
        String what = "instruction " + instruction[0];
        fine(what, gives, body(operands, instruction));
        invalid(what + " gives another kind", 2 * operands.length() + instruction.length, gives == 1 ? 2 : 1, body(operands, instruction));
        for (int i = 0; i < operands.length(); i++) {
            String fewer = operands.substring(i + 1);
            invalid(what + " with " + fewer.length(), 2 * fewer.length(), gives, body(fewer, instruction));
            char other = operands.charAt(i) == 'i' ? 'l' : 'i';
            String changed = operands.substring(0, i) + other + fewer;
            invalid(what + " with " + changed, 2 * operands.length(), gives, body(changed, instruction));
        }
    }

    /** What lies below its operands stays: one of each kind, in their order. */
    private static void rest(String operands, int gives, int... instruction) {
        String what = "what is below the operands of " + instruction[0];
        int[] drop = gives == 0 ? NONE : Kit.b(Kit.DROP);
        fine(what, 0, body("li" + operands, Kit.join(instruction, drop, Kit.b(Kit.EQZ, Kit.DROP, Kit.EQZ + Kit.L, Kit.DROP))));
        invalid(what + " is all there", 2 * operands.length() + 4 + instruction.length + drop.length, 0, body("li" + operands, Kit.join(instruction, drop)));
    }

    /** In dead code it takes nothing, and gives its kind. */
    private static void dead(String operands, int gives, int... instruction) {
        String what = "dead " + instruction[0];
        fine(what, gives, Kit.join(Kit.b(Kit.TRAP), instruction));
        if (gives != 0) {
            invalid(what + " gives its kind", 1 + instruction.length, 3 - gives, Kit.join(Kit.b(Kit.TRAP), instruction));
            invalid(what + " gives one", 1 + instruction.length, 0, Kit.join(Kit.b(Kit.TRAP), instruction));
        }
        if (operands.length() > 0) {
            char top = operands.charAt(operands.length() - 1);
            int[] other = Kit.b(Kit.TRAP, top == 'i' ? Kit.LONG : Kit.INT, 0);
            invalid(what + " of another kind", 3, gives, Kit.join(other, instruction));
        }
    }

    private static int[] body(String operands, int... instruction) {
        int[] all = NONE;
        for (char kind : operands.toCharArray()) {
            all = Kit.join(all, Kit.b(kind == 'i' ? Kit.INT : Kit.LONG, 0));
        }
        return Kit.join(all, instruction);
    }

    /** Function 0 has the body; it and what it may name have ints at 0 and longs at 1. */
    private static Mod module(int r, int... body) {
        int[] result = r == 0 ? NONE : Kit.b(r);
        return new Mod().type(NONE, result).type(Kit.b(1, 2, 1), 2).type(Kit.b(2)).type(NONE, 1)
            .functionWith(0, Kit.b(1, 2), body).function(1, Kit.GET, 1).function(2).function(3, Kit.INT, 0)
            .global(1, 1, 0).global(2, 1, 0).memory();
    }

    private static void fine(String what, int r, int... body) {
        Kit.loaded(what, module(r, body).bytes());
    }

    private static void invalid(String what, int k, int r, int... body) {
        Mod module = module(r, body);
        Kit.loads(what, new WasmSandbox(), 0, WasmSandbox.INVALID, module.bodyAt(0, k), module.bytes());
    }
}
