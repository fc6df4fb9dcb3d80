/** The edges of what makes a module: BYTES, CONST, MODULE and the bytes of INSTRUCTIONS. One method a sentence. */
public final class ModuleEdgesTest {
    private static final int[] NONE = {};

    public static void main(String[] args) {
        bytes();
        constLengths();
        constLast();
        constOrder();
        constSign();
        constLowest();
        kinds();
        otherNames();
        types();
        parameters();
        results();
        imports();
        functions();
        locals();
        everyEnd();
        oneElse();
        noOtherElse();
        globals();
        mayBeSet();
        constOfThatKind();
        entries();
        memories();
        data();
        dataBytes();
        functionNumbers();
        otherNumbers();
        memorySize();
        zeros();
        laterOverEarlier();
        instructionBytes();
        blockResults();
        tableLabels();
        Kit.end();
    }

    private static void malformed(String what, int place, int... bytes) {
        Kit.loads(what, new WasmSandbox(), 0, WasmSandbox.MALFORMED, place, bytes);
    }

    private static void fine(String what, Mod module) {
        Kit.loaded(what, module.bytes());
    }

    /** The bytes of a module up to a place, and then this one, with which no module goes on. */
    private static void wrongAt(String what, Mod module, int place, int b) {
        int[] all = module.bytes();
        all[place] = b;
        malformed(what + " " + b, place, all);
        malformed(what + " " + b + " as the last byte", place, java.util.Arrays.copyOf(all, place + 1));
    }

    private static void bytes() {
        Kit.sentence("BYTES are 0..255");
        WasmSandbox x = Kit.loaded("0 and 255 in DATA", new Mod().data(3, 0, 255, 128, 127).bytes());
        int[] want = {0, 255, 128, 127};
        for (int i = 0; i < 4; i++) {
            Kit.due("byte " + i, x.memory(0, 3 + i), want[i]);
        }
    }

    // ---- CONST

    private static int[] constant(int length, int last) {
        return Kit.join(Kit.many(length - 1, 128), Kit.b(last));
    }

    private static Mod asGlobal(int kind, int... constant) {
        return new Mod().global(kind, 0, constant);
    }

    private static Mod asInstruction(int kind, int... constant) {
        return new Mod().type(NONE, kind).function(0, Kit.join(Kit.b(kind == 1 ? Kit.INT : Kit.LONG), constant));
    }

    private static void value(String what, long want, int kind, int... constant) {
        WasmSandbox x = Kit.loaded(what + " as a global", asGlobal(kind, constant).bytes());
        Kit.due(what + ": global", x.global(0, 0), want);
        Kit.gives(what + " as an instruction", Kit.loaded(what, asInstruction(kind, constant).bytes()), 0, 0, want);
    }

    private static void constLengths() {
        Kit.sentence("A CONST of kind 1 (int) or 2 (long) is 1 to 5 (kind 2: 10) bytes");
        for (int kind = 1; kind <= 2; kind++) {
            int most = kind == 1 ? 5 : 10;
            for (int n = 1; n <= most; n++) {
                value(n + " bytes", 0, kind, constant(n, 0));
            }
            int[] tooLong = constant(most + 1, 0);
            Mod global = asGlobal(kind, tooLong);
            malformed("a byte too many of kind " + kind, global.globalAt(0) + 2 + most - 1, global.bytes());
            Mod instruction = asInstruction(kind, tooLong);
            malformed("a byte too many in an instruction", instruction.bodyAt(0, most), instruction.bytes());
            int[] none = java.util.Arrays.copyOf(global.bytes(), global.globalAt(0) + 2);
            malformed("no byte of kind " + kind, none.length, none);
        }
    }

    private static void constLast() {
        Kit.sentence("all but the last above 127");
        for (int kind = 1; kind <= 2; kind++) {
            value("127 is the last", -1, kind, 127);
            value("128 is not the last", 0, kind, 128, 0);
            value("255 is not the last", 127, kind, 255, 0);
            value("127 behind 128", -128, kind, 128, 127);
            int most = kind == 1 ? 5 : 10;
            int[] noLast = constant(most, 255);
            malformed("255 at the end of kind " + kind, asGlobal(kind, noLast).globalAt(0) + 1 + most, asGlobal(kind, noLast).bytes());
            malformed("128 at the end of kind " + kind, asGlobal(kind, noLast).globalAt(0) + 1 + most, asGlobal(kind, constant(most, 128)).bytes());
        }
    }

    private static void constOrder() {
        Kit.sentence("their low 7 bits, the first byte's lowest, are put together");
        value("an int", 1 | 1 << 7 | 5 << 14 | 6 << 21 | 3 << 28, 1, 129, 129, 133, 134, 3);
        for (int i = 0; i < 10; i++) {
            int[] one = constant(10, 0);
            one[i] |= 1;
            value("the lowest bit of byte " + i, 1L << 7 * i, 2, one);
            if (i < 5) {
                int[] little = constant(5, 0);
                little[i] |= 1;
                value("the lowest bit of byte " + i + " of an int", 1 << 7 * i, 1, little);
            }
        }
    }

    private static void constSign() {
        Kit.sentence("bit 6 of the last byte is the sign of what they give");
        for (int n = 1; n <= 9; n++) {
            long greatest = (1L << 7 * n - 1) - 1;
            int[] up = Kit.join(Kit.many(n - 1, 255), Kit.b(63));
            int[] down = constant(n, 64);
            value("the greatest of " + n, greatest, 2, up);
            value("the least of " + n, -greatest - 1, 2, down);
            if (n <= 4) {
                value("the greatest int of " + n, greatest, 1, up);
                value("the least int of " + n, -greatest - 1, 1, down);
            }
        }
    }

    private static void constLowest() {
        Kit.sentence("of that the lowest 32 (64) bits, signed");
        value("the greatest int", Integer.MAX_VALUE, 1, 255, 255, 255, 255, 7);
        value("an int above it", Integer.MIN_VALUE, 1, 128, 128, 128, 128, 8);
        value("an int far above it", 0, 1, 128, 128, 128, 128, 16);
        value("the least int", Integer.MIN_VALUE, 1, 128, 128, 128, 128, 120);
        value("an int below it", Integer.MAX_VALUE, 1, 255, 255, 255, 255, 119);
        value("an int far below it", 5, 1, 133, 128, 128, 128, 64);
        value("the greatest long", Long.MAX_VALUE, 2, 255, 255, 255, 255, 255, 255, 255, 255, 255, 0);
        value("a long above it", Long.MIN_VALUE, 2, 128, 128, 128, 128, 128, 128, 128, 128, 128, 1);
        value("a long far above it", 0, 2, 128, 128, 128, 128, 128, 128, 128, 128, 128, 2);
        value("the least long", Long.MIN_VALUE, 2, 128, 128, 128, 128, 128, 128, 128, 128, 128, 127);
        value("a long far below it", 5, 2, 133, 128, 128, 128, 128, 128, 128, 128, 128, 64);
    }

    // ---- MODULE

    private static void kinds() {
        Kit.sentence("a KIND is a byte 1 or 2");
        Mod all = new Mod().type(Kit.b(1, 2), 1).functionWith(0, Kit.b(1, 2), Kit.INT, 0).global(2, 0, 0);
        fine("1 and 2", all);
        int[] places = {2, 3, 5, all.functionAt(0) + 2, all.functionAt(0) + 3, all.globalAt(0)};
        for (int place : places) {
            for (int b : new int[] {0, 3, 255}) {
                wrongAt("a kind at " + place, all, place, b);
            }
        }
    }

    private static void otherNames() {
        Kit.sentence("every other name is one byte, any but for the limits given");
        Mod type = new Mod().type(NONE).imports(255, 255);
        Kit.loads("type 255", new WasmSandbox(), 0, WasmSandbox.INVALID, type.importAt(0), type.bytes());
        Mod what = new Mod().type(NONE).imports(0, 255);
        Kit.loads("what 255", new WasmSandbox(), 0, WasmSandbox.LINK, what.importAt(0) + 1, what.bytes());
        Mod entry = new Mod().table(254);
        Kit.loads("entry 254", new WasmSandbox(), 0, WasmSandbox.INVALID, entry.entryAt(0), entry.bytes());
        Mod offset = new Mod().data(255);
        Kit.loads("offset 255", new WasmSandbox(), 0, WasmSandbox.INVALID, offset.dataAt(0), offset.bytes());
        for (int op : new int[] {7, 8, 11, 12, 15, 16, 17, 18, 19}) {
            Mod body = new Mod().type(NONE).function(0, Kit.TRAP, op, 255);
            Kit.loads("255 behind " + op, new WasmSandbox(), 0, WasmSandbox.INVALID, body.bodyAt(0, 1), body.bytes());
        }
        for (int op = Kit.LOAD8; op <= Kit.STORE64; op++) {
            fine("255 behind " + op, new Mod().type(NONE).function(0, Kit.TRAP, op, 255, Kit.TRAP).memory());
        }
    }

    /** A count: its least and most are fine; one more and 255 are not. */
    private static void count(String what, Mod least, Mod most, int place, int limit) {
        fine("the least " + what, least);
        fine("the most " + what, most);
        Kit.due("most " + what, most.bytes()[place], limit);
        wrongAt(what, most, place, limit + 1);
        wrongAt(what, most, place, 255);
    }

    private static void types() {
        Kit.sentence("n 0..4 [ TYPE");
        count("types", new Mod(), new Mod().type(NONE).type(NONE).type(NONE).type(NONE), 0, 4);
    }

    private static void parameters() {
        Kit.sentence("p 0..3 [ KIND ]");
        count("parameters", new Mod().type(NONE, 1), new Mod().type(Kit.b(1, 2, 1), 1), 1, 3);
    }

    private static void results() {
        Kit.sentence("r 0..1 [ KIND ]");
        count("results", new Mod().type(NONE), new Mod().type(NONE, 2), 2, 1);
    }

    private static void imports() {
        Kit.sentence("n 0..3 [ IMPORT: type what ]");
        Mod most = new Mod().type(NONE, 1).imports(0, 17).imports(0, 17).imports(0, 17);
        count("imports", new Mod().type(NONE, 1), most, most.importAt(0) - 1, 3);
    }

    private static void functions() {
        Kit.sentence("n 0..4 [ FUNCTION");
        Mod most = new Mod().type(NONE).function(0).function(0).function(0).function(0);
        count("functions", new Mod().type(NONE), most, most.functionAt(0) - 1, 4);
    }

    private static void locals() {
        Kit.sentence("l 0..3 [ KIND ]");
        Mod most = new Mod().type(NONE).functionWith(0, Kit.b(1, 2, 2));
        count("locals", new Mod().type(NONE).function(0), most, most.functionAt(0) + 1, 3);
    }

    private static int[] cutBehind(Mod module, int k) {
        return java.util.Arrays.copyOf(module.bytes(), module.bodyAt(0, k));
    }

    private static void everyEnd() {
        Kit.sentence("every BLOCK, LOOP and IF has its END");
        fine("a body of an END alone", new Mod().type(NONE).function(0));
        for (int op = Kit.BLOCK; op <= Kit.IF; op++) {
            Mod two = new Mod().type(NONE).function(0, Kit.TRAP, op, 0, Kit.END);
            fine("both ENDs of " + op, two);
            int[] one = cutBehind(two, 4);
            malformed("one END with " + op, one.length, one);
            // The bytes that were meant to stand behind the body are instructions still.
            int[] taken = Kit.join(one, Kit.b(0, 0, 0));
            malformed("what follows is in the body with " + op, taken.length, taken);
        }
        Mod none = new Mod().type(NONE).function(0, Kit.NOP);
        int[] noEnd = cutBehind(none, 1);
        malformed("a body without an END", noEnd.length, noEnd);
        int[] deep = Kit.join(cutBehind(none, 0), Kit.many(66, Kit.BLOCK, 0));
        malformed("66 BLOCKs without an END", deep.length, deep);
        int[] ends = Kit.join(cutBehind(none, 0), Kit.many(43, Kit.BLOCK, 0), Kit.many(44, Kit.END), Kit.NOTHING_BEHIND);
        Kit.loads("43 BLOCKs with their ENDs", new WasmSandbox(), 0, WasmSandbox.INVALID, none.bodyAt(0, 14), ends);
    }

    private static void elseAt(String what, int k, int... body) {
        Mod module = new Mod().type(NONE).function(0, body);
        malformed(what, module.bodyAt(0, k), module.bytes());
        malformed(what + ", the last byte", module.bodyAt(0, k), cutBehind(module, k + 1));
    }

    private static void oneElse() {
        Kit.sentence("an IF at most one ELSE before it in the same nesting");
        fine("no ELSE", new Mod().type(NONE).function(0, Kit.INT, 0, Kit.IF, 0, Kit.END));
        fine("one ELSE", new Mod().type(NONE).function(0, Kit.INT, 0, Kit.IF, 0, Kit.ELSE, Kit.END));
        fine("one ELSE each", new Mod().type(NONE).function(0, Kit.INT, 0, Kit.IF, 0, Kit.INT, 0, Kit.IF, 0, Kit.ELSE, Kit.END, Kit.ELSE, Kit.INT, 0, Kit.IF, 0, Kit.ELSE, Kit.END, Kit.END));
        elseAt("two ELSEs", 5, Kit.INT, 0, Kit.IF, 0, Kit.ELSE, Kit.ELSE, Kit.END);
        elseAt("two ELSEs around an IF with its own", 10, Kit.INT, 0, Kit.IF, 0, Kit.ELSE, Kit.INT, 0, Kit.IF, 0, Kit.END, Kit.ELSE, Kit.END);
        elseAt("two ELSEs of the inner IF", 9, Kit.INT, 0, Kit.IF, 0, Kit.INT, 0, Kit.IF, 0, Kit.ELSE, Kit.ELSE, Kit.END, Kit.END);
    }

    private static void noOtherElse() {
        Kit.sentence("and no other ELSE is there");
        elseAt("in the body", 0, Kit.ELSE);
        elseAt("in a BLOCK", 2, Kit.BLOCK, 0, Kit.ELSE, Kit.END);
        elseAt("in a LOOP", 2, Kit.LOOP, 0, Kit.ELSE, Kit.END);
        elseAt("in a BLOCK in an IF", 6, Kit.INT, 0, Kit.IF, 0, Kit.BLOCK, 0, Kit.ELSE, Kit.END, Kit.END);
        elseAt("in a LOOP in an ELSE part", 7, Kit.INT, 0, Kit.IF, 0, Kit.ELSE, Kit.LOOP, 0, Kit.ELSE, Kit.END, Kit.END);
        elseAt("behind an IF", 5, Kit.INT, 0, Kit.IF, 0, Kit.END, Kit.ELSE);
        Mod second = new Mod().type(NONE).function(0, Kit.INT, 0, Kit.IF, 0, Kit.END).function(0, Kit.ELSE);
        malformed("in the next body", second.bodyAt(1, 0), second.bytes());
        // Where the body of the module before began there is a 4 now, but no IF.
        WasmSandbox x = Kit.loaded("a body before", new Mod().type(NONE).function(0).bytes());
        Kit.loads("behind a 4 that is no IF", x, 0, WasmSandbox.MALFORMED, 8, 0, 0, 1, 0, 0, Kit.NOP, Kit.INT, Kit.IF, Kit.ELSE, Kit.END, 0, 0, 0);
    }

    private static void globals() {
        Kit.sentence("n 0..3 [ GLOBAL");
        Mod most = new Mod().global(1, 0, 0).global(2, 1, 0).global(1, 1, 0);
        count("globals", new Mod(), most, most.globalAt(0) - 1, 3);
    }

    private static void mayBeSet() {
        Kit.sentence("0 or 1");
        Mod global = new Mod().global(1, 1, 0);
        count("flags", new Mod().global(1, 0, 0), global, global.globalAt(0) + 1, 1);
    }

    private static void constOfThatKind() {
        Kit.sentence("CONST of that kind");
        int[] six = constant(6, 1);
        value("six bytes of kind 2", 1L << 35, 2, six);
        Mod asInt = asGlobal(1, six);
        malformed("six bytes of kind 1", asInt.globalAt(0) + 6, asInt.bytes());
        int[] ten = constant(10, 1);
        Mod mixed = new Mod().global(2, 0, ten).global(1, 0, ten);
        malformed("ten bytes of kind 1 behind kind 2", mixed.globalAt(1) + 6, mixed.bytes());
    }

    private static void entries() {
        Kit.sentence("n 0..5 [ TABLE entry: a function's number, or 255: empty ]");
        Mod most = new Mod().table(255, 255, 255, 255, 255);
        count("entries", new Mod(), most, most.entryAt(0) - 1, 5);
        fine("a function's number", new Mod().type(NONE).function(0).table(0));
    }

    private static void memories() {
        Kit.sentence("memory 0 or 1, and then, if 1");
        Mod with = new Mod().memory();
        int place = with.dataAt(0) - 2;
        count("memories", new Mod(), with, place, 1);
        malformed("n behind memory 0", place + 1, Kit.join(new Mod().bytes(), Kit.b(0)));
        int[] cut = java.util.Arrays.copyOf(with.bytes(), place + 1);
        malformed("no n behind memory 1", place + 1, cut);
    }

    private static void data() {
        Kit.sentence("n 0..2 [ DATA");
        Mod most = new Mod().data(0, 1).data(0, 2);
        count("DATA", new Mod().memory(), most, most.dataAt(0) - 1, 2);
    }

    private static void dataBytes() {
        Kit.sentence("offset  n 0..8 [ byte ]");
        Mod most = new Mod().data(1, 1, 2, 3, 4, 5, 6, 7, 8);
        count("bytes of DATA", new Mod().data(0), most, most.dataAt(0) + 1, 8);
    }

    private static void functionNumbers() {
        Kit.sentence("Functions are numbered: first the imports, then those of the module.");
        Mod all = new Mod().type(NONE, 1).imports(0, 17).imports(0, 17).imports(0, 17);
        for (int f = 3; f <= 6; f++) {
            all.function(0, Kit.INT, f);
        }
        WasmSandbox x = Kit.loaded("seven functions", all.bytes());
        for (int f = 0; f <= 7; f++) {
            boolean own = f >= 3 && f <= 6;
            Kit.due("invoke of " + f, x.invoke(0, f, 0, 0, 0), own ? WasmSandbox.DONE : WasmSandbox.BAD);
            Kit.due("result of " + f, x.result(), f < 3 ? 0 : f > 6 ? 6 : f);
        }
        for (int f = 0; f <= 5; f++) {
            Mod calls = new Mod().type(NONE, 1).imports(0, 17).imports(0, 17).imports(0, 17);
            calls.function(0, Kit.INT, 3).function(0, Kit.INT, 4).function(0, Kit.INT, 5).function(0, Kit.CALL, f);
            Kit.gives("CALL " + f, Kit.loaded("CALL " + f, calls.bytes()), 0, 6, f < 3 ? -1 : f);
        }
        for (int print = 0; print < 3; print++) {
            Mod host = new Mod().type(Kit.b(1)).type(NONE, 1);
            for (int i = 0; i < 3; i++) {
                host.imports(i == print ? 0 : 1, i == print ? 16 : 17);
            }
            host.function(1, Kit.INT, 9, Kit.CALL, print, Kit.CALL, print == 0 ? 1 : 0, Kit.CALL, print == 2 ? 1 : 2, Kit.SUB);
            WasmSandbox y = Kit.loaded("print as import " + print, host.bytes());
            Kit.due("feed", y.feed(30), true);
            Kit.due("feed", y.feed(10), true);
            Kit.gives("print as import " + print, y, 0, 3, 20);
            Kit.due("what it printed", y.printed(0), 9);
        }
    }

    private static void otherNumbers() {
        Kit.sentence("Globals, types, table entries, too, from 0.");
        Mod globals = new Mod().type(NONE, 1).function(0, Kit.GGET, 0).function(0, Kit.GGET, 1).function(0, Kit.GGET, 2).global(1, 0, 10).global(1, 0, 11).global(1, 0, 12);
        WasmSandbox x = Kit.loaded("globals", globals.bytes());
        Mod types = new Mod().type(NONE).type(NONE, 1).type(NONE, 2).type(Kit.b(1), 1).function(1, Kit.INT, 1).function(2, Kit.LONG, 2).function(3, Kit.GET, 0).function(0);
        WasmSandbox y = Kit.loaded("types", types.bytes());
        Mod entries = new Mod().type(NONE, 1).type(Kit.b(1), 1).function(0, Kit.INT, 0).function(0, Kit.INT, 1).function(0, Kit.INT, 2).function(1, Kit.GET, 0, Kit.CALL_INDIRECT, 0).table(2, 1, 0, 1, 2);
        WasmSandbox z = Kit.loaded("entries", entries.bytes());
        int[] order = {2, 1, 0, 1, 2};
        for (int i = 0; i < 5; i++) {
            Kit.gives("entry " + i, z, 0, 3, order[i], i);
        }
        for (int i = 0; i < 3; i++) {
            Kit.due("global " + i, x.global(0, i), 10 + i);
            Kit.gives("GGET " + i, x, 0, i, 10 + i);
            Kit.gives("type " + (i + 1), y, 0, i, i + 1, 3);
        }
    }

    private static void memorySize() {
        Kit.sentence("A memory has 48 bytes");
        WasmSandbox x = Kit.loaded("DATA at the end", new Mod().data(47, 9).data(0, 8).bytes());
        Kit.due("the first", x.memory(0, 0), 8);
        Kit.due("the last", x.memory(0, 47), 9);
        Kit.due("behind the last", x.memory(0, 48), -1);
        Kit.due("before the first", x.memory(0, -1), -1);
    }

    private static void zeros() {
        Kit.sentence("0 where no DATA puts a byte");
        WasmSandbox x = Kit.loaded("two DATA", new Mod().data(5, 1, 2).data(9, 3).bytes());
        WasmSandbox y = Kit.loaded("no DATA", new Mod().memory().bytes());
        for (int i = 0; i < 48; i++) {
            Kit.due("byte " + i, x.memory(0, i), i == 5 ? 1 : i == 6 ? 2 : i == 9 ? 3 : 0);
            Kit.due("byte " + i + " without DATA", y.memory(0, i), 0);
        }
    }

    private static void laterOverEarlier() {
        Kit.sentence("later DATA over earlier");
        WasmSandbox x = Kit.loaded("DATA over DATA", new Mod().data(4, 1, 2, 3, 4).data(5, 0, 9).bytes());
        int[] want = {0, 1, 0, 9, 4, 0};
        for (int i = 0; i < 6; i++) {
            Kit.due("byte " + (3 + i), x.memory(0, 3 + i), want[i]);
        }
    }

    // ---- INSTRUCTIONS

    private static void instructionBytes() {
        Kit.sentence("66 EXTENDU");
        Mod last = new Mod().type(NONE, 2).function(0, Kit.INT, 0, Kit.EXTENDU);
        fine("66", last);
        for (int b = 67; b <= 255; b++) {
            wrongAt("an instruction", last, last.bodyAt(0, 2), b);
        }
    }

    private static void blockResults() {
        Kit.sentence("t (0..2): result of a BLOCK, LOOP, IF");
        for (int op = Kit.BLOCK; op <= Kit.IF; op++) {
            for (int t = 0; t <= 2; t++) {
                int[] part = t == 0 ? Kit.b(Kit.NOP) : Kit.b(t == 1 ? Kit.INT : Kit.LONG, 5);
                int[] other = op == Kit.IF ? Kit.join(Kit.b(Kit.ELSE), part) : NONE;
                int[] rest = t == 0 ? Kit.b(Kit.END, Kit.NOP) : Kit.b(Kit.END, Kit.DROP);
                fine("t " + t + " of " + op, new Mod().type(NONE).function(0, Kit.join(op == Kit.IF ? Kit.b(Kit.INT, 0) : NONE, Kit.b(op, t), part, other, rest)));
            }
            Mod open = new Mod().type(NONE).function(0, op, 0, Kit.END);
            wrongAt("t of " + op, open, open.bodyAt(0, 1), 3);
            wrongAt("t of " + op, open, open.bodyAt(0, 1), 255);
        }
    }

    private static void tableLabels() {
        Kit.sentence("9 BR_TABLE n 0..4 [ d ] d");
        Mod most = new Mod().type(NONE).function(0, Kit.INT, 0, Kit.BR_TABLE, 4, 0, 0, 0, 0, 0);
        count("labels", new Mod().type(NONE).function(0, Kit.INT, 0, Kit.BR_TABLE, 0, 0), most, most.bodyAt(0, 3), 4);
    }
}
