/** The edges of the promises 1 to 13. One method a sentence. */
public final class PromiseEdgesTest {
    private static final int[] NONE = {};
    private static final int LEAST = Integer.MIN_VALUE, MOST = Integer.MAX_VALUE;
    private static final int[] NO_SLOTS = {-1, 2, 3, LEAST, MOST};
    private static final int[] SEVEN = one(1, Kit.INT, 7).bytes(), EIGHT = one(1, Kit.INT, 8).bytes();
    // Import 0 prints, import 1 gives an input; function 2 prints its argument, function 3 gives an input.
    private static final Mod HOST = new Mod().type(Kit.b(1)).type(NONE, 1).imports(0, 16).imports(1, 17)
        .function(0, Kit.GET, 0, Kit.CALL, 0).function(1, Kit.CALL, 1);

    public static void main(String[] args) {
        calls512();
        noBytes();
        bothSlotsEmpty();
        noInput();
        nothingPrinted();
        putOutside();
        put140();
        clearAnswers();
        slotsStay();
        loadMakes();
        fresh();
        bytesStay();
        loadOutside();
        firstOfThree();
        noModuleBegins();
        notComplete();
        missingTypes();
        invalidInstructions();
        wrongEntries();
        wrongData();
        leastPlace();
        firstImport();
        hostsPrint();
        hostsInput();
        functionsOfSlot0();
        mustBeThere();
        sameType();
        nothingElseFits();
        asBefore();
        slot1IsEmpty();
        places();
        arguments();
        invokeBad();
        results();
        trappedAt();
        used();
        memory();
        global();
        feedInOrder();
        noneWaits();
        eightWait();
        printedFromLatest();
        printedOutside();
        howMany();
        Kit.end();
    }

    private static int[] b(int... bytes) {
        return bytes;
    }

    private static int[] j(int[]... parts) {
        return Kit.join(parts);
    }

    private static Mod one(int r, int... body) {
        return new Mod().type(NONE, r == 0 ? NONE : b(r)).function(0, body);
    }

    private static void loads(String what, WasmSandbox x, int slot, Mod module) {
        Kit.loads(what, x, slot, WasmSandbox.OK, -1, module.bytes());
    }

    private static void fails(String what, int slot, int outcome, int place, Mod module) {
        Kit.loads(what, new WasmSandbox(), slot, outcome, place, module.bytes());
    }

    private static void calls512() {
        Kit.sentence("An object is used for at most 512 calls after it has been made");
        WasmSandbox x = new WasmSandbox();
        int[] module = HOST.bytes();
        for (int v : module) {
            Kit.due("put", x.put(v), true);
        }
        Kit.due("load", x.load(0), WasmSandbox.OK);
        int made = module.length + 1;
        int runs = 0;
        while (made < 510) {
            Kit.due("print", x.invoke(0, 2, runs, 0, 0), WasmSandbox.DONE);
            runs++;
            made++;
        }
        Kit.due("call 511", x.printed(-1), runs);
        Kit.due("call 512", x.printed(15), runs - 16);
    }

    // ---- Promises 1 to 3

    private static void noBytes() {
        Kit.sentence("No bytes");
        Kit.due("clear of a new object", new WasmSandbox().clear(), 0);
        Kit.loads("load of a new object", new WasmSandbox(), 0, WasmSandbox.MALFORMED, 0);
    }

    private static void bothSlotsEmpty() {
        Kit.sentence("both slots empty");
        WasmSandbox x = new WasmSandbox();
        for (int slot = 0; slot <= 1; slot++) {
            Kit.due("invoke", x.invoke(slot, 0, 0, 0, 0), WasmSandbox.BAD);
            Kit.due("memory", x.memory(slot, 0), -1);
            Kit.due("global", x.global(slot, 0), 0);
        }
        Mod module = new Mod().type(NONE).imports(0, 0);
        Kit.loads("nothing to link to", x, 1, WasmSandbox.LINK, module.importAt(0) + 1, module.bytes());
    }

    private static void noInput() {
        Kit.sentence("no input");
        WasmSandbox x = Kit.loaded("host", HOST.bytes());
        Kit.gives("input", x, 0, 3, -1);
    }

    private static void nothingPrinted() {
        Kit.sentence("nothing printed");
        WasmSandbox x = new WasmSandbox();
        for (int k = -1; k <= 16; k++) {
            Kit.due("printed(" + k + ")", x.printed(k), 0);
        }
    }

    private static void putOutside() {
        Kit.sentence("False, changing nothing, if b is outside 0..255");
        WasmSandbox x = new WasmSandbox();
        for (int i = 0; i < SEVEN.length; i++) {
            for (int v : new int[] {-1, 256, LEAST, MOST, -256, 512}) {
                Kit.due("put(" + v + ")", x.put(v), false);
            }
            Kit.due("put", x.put(SEVEN[i]), true);
        }
        Kit.due("load", x.load(0), WasmSandbox.OK);
        Kit.gives("run", x, 0, 0, 7);
        Kit.due("put(0)", x.put(0), true);
        Kit.due("put(255)", x.put(255), true);
        Kit.due("clear", x.clear(), SEVEN.length + 2);
    }

    private static void put140() {
        Kit.sentence("False, changing nothing, if .. there are 140");
        int[] first = one(1, j(Kit.many(126, Kit.NOP), b(Kit.INT, 9))).bytes();
        Kit.due("a module of 140", first.length, 140);
        WasmSandbox x = new WasmSandbox();
        for (int i = 0; i < 140; i++) {
            Kit.due("put " + i, x.put(first[i]), true);
        }
        for (int v : new int[] {0, 255, -1, 256}) {
            Kit.due("a 141st " + v, x.put(v), false);
        }
        Kit.due("load", x.load(0), WasmSandbox.OK);
        Kit.gives("run", x, 0, 0, 9);
        Kit.due("clear", x.clear(), 140);
        Kit.due("put behind clear", x.put(0), true);
        Kit.due("clear of one", x.clear(), 1);
        int[] data = one(0, Kit.many(125, Kit.NOP)).data(5, 77).bytes();
        Kit.loads("140 bytes, the last of DATA", x, 0, WasmSandbox.OK, -1, data);
        Kit.due("the number of its bytes", data.length, 140);
        Kit.due("the last of DATA", x.memory(0, 5), 77);
    }

    private static void clearAnswers() {
        Kit.sentence("Removes all bytes; answers their number.");
        WasmSandbox x = new WasmSandbox();
        for (int n : new int[] {0, 1, 2, 140, 0, 139}) {
            for (int i = 0; i < n; i++) {
                x.put(0);
            }
            Kit.due("clear of " + n, x.clear(), n);
            Kit.due("clear again", x.clear(), 0);
            Kit.due("load of none", x.load(0), WasmSandbox.MALFORMED);
            Kit.due("place of none", x.place(), 0);
        }
        for (int rest : new int[] {5, 255}) {
            WasmSandbox y = new WasmSandbox();
            Kit.put(y, Kit.many(140, rest));
            loads("what was removed is gone", y, 0, new Mod().data(0, 1));
            for (int i = 0; i < 48; i++) {
                Kit.due("byte " + i, y.memory(0, i), i == 0 ? 1 : 0);
            }
        }
    }

    private static void slotsStay() {
        Kit.sentence("The slots stay.");
        WasmSandbox x = Kit.loaded("slot 0", SEVEN);
        Kit.loads("slot 1", x, 1, WasmSandbox.OK, -1, EIGHT);
        x.clear();
        for (int i = 0; i < 140; i++) {
            x.put(255);
        }
        x.clear();
        Kit.gives("slot 0", x, 0, 0, 7);
        Kit.gives("slot 1", x, 1, 0, 8);
    }

    // ---- Promise 4

    private static void loadMakes() {
        Kit.sentence("Makes the bytes the module of a slot (0, 1)");
        WasmSandbox x = Kit.loaded("slot 0", SEVEN);
        Kit.loads("slot 1", x, 1, WasmSandbox.OK, -1, EIGHT);
        Kit.gives("slot 0", x, 0, 0, 7);
        Kit.gives("slot 1", x, 1, 0, 8);
        Kit.loads("slot 1 anew", x, 1, WasmSandbox.OK, -1, SEVEN);
        Kit.gives("slot 1 anew", x, 1, 0, 7);
        Kit.loads("the least module", x, 1, WasmSandbox.OK, -1, new Mod().bytes());
        Kit.due("it has no function", x.invoke(1, 0, 0, 0, 0), WasmSandbox.BAD);
        Kit.loads("slot 1 without slot 0", new WasmSandbox(), 1, WasmSandbox.OK, -1, SEVEN);
    }

    private static void fresh() {
        Kit.sentence("with fresh globals and memory");
        // Sets the global, and the bytes 0, 1 and 47.
        int[] stores = {Kit.INT, 0, Kit.INT, 6, Kit.STORE8, 0, Kit.INT, 1, Kit.INT, 6, Kit.STORE8, 0, Kit.INT, 47, Kit.INT, 6, Kit.STORE8, 0};
        Mod module = one(0, j(b(Kit.INT, 5, Kit.GSET, 0), stores)).global(1, 1, 1).data(1, 9);
        WasmSandbox x = Kit.loaded("module", module.bytes());
        for (int i = 0; i < 3; i++) {
            for (int slot = 0; slot <= 1; slot++) {
                Kit.due("load", x.load(slot), WasmSandbox.OK);
                Kit.due("a fresh global", x.global(slot, 0), 1);
                Kit.due("a fresh byte of DATA", x.memory(slot, 1), 9);
                Kit.due("a fresh byte without DATA", x.memory(slot, 0), 0);
                Kit.due("the last fresh byte", x.memory(slot, 47), 0);
                Kit.gives("run", x, slot, 0, 0);
                Kit.due("the global that was set", x.global(slot, 0), 5);
                Kit.due("the byte that was stored", x.memory(slot, 1), 6);
            }
        }
    }

    private static void bytesStay() {
        Kit.sentence("the bytes stay");
        WasmSandbox x = Kit.loaded("slot 0", SEVEN);
        Kit.due("load again", x.load(1), WasmSandbox.OK);
        Kit.due("put behind them", x.put(0), true);
        Kit.due("load with a byte more", x.load(1), WasmSandbox.MALFORMED);
        Kit.due("its place", x.place(), SEVEN.length);
        Kit.due("clear", x.clear(), SEVEN.length + 1);
        Mod link = new Mod().type(NONE).imports(0, 99), invalid = one(0, Kit.DROP);
        Kit.loads("LINK", x, 0, WasmSandbox.LINK, link.importAt(0) + 1, link.bytes());
        Kit.due("LINK again", x.load(0), WasmSandbox.LINK);
        Kit.due("the bytes behind LINK", x.clear(), link.bytes().length);
        Kit.loads("INVALID", x, 0, WasmSandbox.INVALID, invalid.bodyAt(0, 0), invalid.bytes());
        Kit.due("INVALID again", x.load(0), WasmSandbox.INVALID);
        Kit.due("the bytes behind INVALID", x.clear(), invalid.bytes().length);
    }

    private static void loadOutside() {
        Kit.sentence("BAD if slot is outside.");
        WasmSandbox x = Kit.loaded("slot 0", SEVEN);
        Kit.loads("slot 1", x, 1, WasmSandbox.OK, -1, EIGHT);
        Kit.put(x, 9);
        for (int slot : NO_SLOTS) {
            Kit.due("load(" + slot + ") of no module", x.load(slot), WasmSandbox.BAD);
        }
        Kit.put(x, EIGHT);
        for (int slot : NO_SLOTS) {
            Kit.due("load(" + slot + ")", x.load(slot), WasmSandbox.BAD);
        }
        Kit.gives("slot 0 stays", x, 0, 0, 7);
        Kit.gives("slot 1 stays", x, 1, 0, 8);
        Kit.due("the bytes stay", x.clear(), EIGHT.length);
    }

    private static void firstOfThree() {
        Kit.sentence("The first of: MALFORMED .. INVALID .. LINK");
        Mod link = new Mod().type(NONE).imports(0, 99).function(0);
        fails("LINK alone", 0, WasmSandbox.LINK, link.importAt(0) + 1, link);
        Mod both = new Mod().type(NONE).imports(0, 99).function(0, Kit.DROP);
        fails("INVALID before LINK", 0, WasmSandbox.INVALID, both.bodyAt(0, 0), both);
        Mod data = new Mod().type(NONE).imports(0, 99).function(0).data(49);
        fails("INVALID far behind LINK", 0, WasmSandbox.INVALID, data.dataAt(0), data);
        int[] all = Kit.join(both.bytes(), b(0));
        Kit.loads("MALFORMED before both", new WasmSandbox(), 0, WasmSandbox.MALFORMED, all.length - 1, all);
        int[] cut = java.util.Arrays.copyOf(both.bytes(), both.bytes().length - 1);
        Kit.loads("not complete, before both", new WasmSandbox(), 0, WasmSandbox.MALFORMED, cut.length, cut);
    }

    private static void noModuleBegins() {
        Kit.sentence("the first byte such that no MODULE begins with the bytes up to it and with it");
        Kit.loads("the first byte", new WasmSandbox(), 0, WasmSandbox.MALFORMED, 0, 5, 255, 255);
        Kit.loads("the second byte", new WasmSandbox(), 0, WasmSandbox.MALFORMED, 1, 4, 4, 255);
        for (int more : new int[] {0, 6, 255}) {
            Kit.loads("behind the least module", new WasmSandbox(), 0, WasmSandbox.MALFORMED, 6, j(new Mod().bytes(), b(more)));
            Kit.loads("behind a module", new WasmSandbox(), 0, WasmSandbox.MALFORMED, SEVEN.length, j(SEVEN, b(more, more)));
            Kit.loads("behind a memory", new WasmSandbox(), 0, WasmSandbox.MALFORMED, 7, j(new Mod().memory().bytes(), b(more)));
            int[] data = new Mod().data(0, 1, 2).bytes();
            Kit.loads("behind DATA", new WasmSandbox(), 0, WasmSandbox.MALFORMED, data.length, j(data, b(more)));
        }
        int[] two = j(SEVEN, SEVEN);
        Kit.loads("two modules", new WasmSandbox(), 1, WasmSandbox.MALFORMED, SEVEN.length, two);
    }

    private static void notComplete() {
        Kit.sentence("or their number if the module is not complete");
        Mod all = new Mod().type(b(1, 2), 1).imports(0, 16).functionWith(0, b(1), Kit.BLOCK, 0, Kit.INT, 128, 0, Kit.BR_TABLE, 1, 0, 0, Kit.END, Kit.LONG, 128, 0, Kit.TRAP)
            .global(2, 1, 128, 0).table(255, 0).data(1, 2, 3).data(4, 5);
        int[] bytes = all.bytes();
        for (int n = 0; n < bytes.length; n++) {
            Kit.loads("the first " + n, new WasmSandbox(), 0, WasmSandbox.MALFORMED, n, java.util.Arrays.copyOf(bytes, n));
        }
        int[] full = j(java.util.Arrays.copyOf(bytes, all.bodyAt(0, 0)), Kit.many(140 - all.bodyAt(0, 0), Kit.NOP));
        Kit.loads("140 bytes", new WasmSandbox(), 0, WasmSandbox.MALFORMED, 140, full);
    }

    private static void missingTypes() {
        Kit.sentence("the first type number of an import or function that is not there (place: that byte)");
        for (int n = 0; n <= 4; n++) {
            for (int type : new int[] {n, n + 1, 255}) {
                Mod imported = types(n).imports(type, 16), function = types(n).function(type);
                fails("import of type " + type + " of " + n, 0, WasmSandbox.INVALID, imported.importAt(0), imported);
                fails("function of type " + type + " of " + n, 0, WasmSandbox.INVALID, function.functionAt(0), function);
            }
            if (n > 0) {
                Mod third = types(n).imports(n - 1, 16).imports(n - 1, 16).imports(n, 16);
                fails("the third import", 0, WasmSandbox.INVALID, third.importAt(2), third);
                Mod fourth = types(n).function(n - 1).function(n - 1).function(n - 1).function(n);
                fails("the fourth function", 0, WasmSandbox.INVALID, fourth.functionAt(3), fourth);
                Kit.loaded("the last type", types(n).function(n - 1).bytes());
            }
        }
    }

    private static Mod types(int n) {
        Mod module = new Mod();
        for (int i = 0; i < n; i++) {
            module.type(NONE);
        }
        return module;
    }

    private static void invalidInstructions() {
        Kit.sentence("INVALID instruction (place: its byte)");
        Mod first = one(0, Kit.DROP), operand = one(0, Kit.NOP, Kit.GET, 5), end = one(1, Kit.NOP), second = one(0, Kit.NOP).function(0, Kit.NOP, Kit.DROP);
        fails("the first", 0, WasmSandbox.INVALID, first.bodyAt(0, 0), first);
        fails("one with an operand", 0, WasmSandbox.INVALID, operand.bodyAt(0, 1), operand);
        fails("the END of a body", 0, WasmSandbox.INVALID, end.bodyAt(0, 1), end);
        fails("one of the second function", 0, WasmSandbox.INVALID, second.bodyAt(1, 1), second);
        Mod table = one(0, Kit.BR_TABLE, 4, 0, 0, 0, 0, 0), constant = one(0, Kit.LONG, 255, 255, 255, 255, 0, Kit.DROP, Kit.DROP);
        fails("BR_TABLE", 0, WasmSandbox.INVALID, table.bodyAt(0, 0), table);
        fails("behind a CONST", 0, WasmSandbox.INVALID, constant.bodyAt(0, 7), constant);
    }

    private static void wrongEntries() {
        Kit.sentence("table entry that is no function's number and not 255 (its byte)");
        for (int imports = 0; imports <= 3; imports++) {
            for (int functions = 0; functions <= 4; functions++) {
                int n = imports + functions;
                for (int entry = 0; entry <= n; entry++) {
                    Mod module = withFunctions(imports, functions).table(255, 255, 255, 255, entry);
                    if (entry < n) {
                        Kit.loaded("entry " + entry + " of " + n, module.bytes());
                    } else {
                        fails("entry " + entry + " of " + n, 0, WasmSandbox.INVALID, module.entryAt(4), module);
                    }
                }
                Mod last = withFunctions(imports, functions).table(255, 254, 253);
                fails("254", 0, WasmSandbox.INVALID, last.entryAt(1), last);
            }
        }
    }

    private static Mod withFunctions(int imports, int functions) {
        Mod module = new Mod().type(NONE).type(NONE, 1);
        for (int i = 0; i < imports; i++) {
            module.imports(1, 17);
        }
        for (int i = 0; i < functions; i++) {
            module.function(0);
        }
        return module;
    }

    private static void wrongData() {
        Kit.sentence("DATA whose offset and length are together above 48 (the byte of its offset)");
        for (int length = 0; length <= 8; length++) {
            Kit.loaded("up to 48", new Mod().data(48 - length, Kit.many(length, 1)).bytes());
            for (int offset : new int[] {49 - length, 255}) {
                Mod first = new Mod().data(offset, Kit.many(length, 1)).data(200), second = new Mod().data(40, Kit.many(8, 1)).data(offset, Kit.many(length, 1));
                fails(length + " at " + offset, 0, WasmSandbox.INVALID, first.dataAt(0), first);
                fails(length + " at " + offset + " as the second", 0, WasmSandbox.INVALID, second.dataAt(1), second);
            }
        }
    }

    /** All faults at once; then one after the other is mended, and the next place is told. */
    private static void leastPlace() {
        Kit.sentence("that is the least place of all");
        for (int mended = 0; mended <= 6; mended++) {
            Mod m = new Mod().type(NONE).type(NONE, 1).imports(mended > 0 ? 1 : 9, 17);
            m.function(0, mended > 1 ? Kit.NOP : Kit.DROP).function(mended > 2 ? 0 : 9, mended > 3 ? Kit.NOP : Kit.DROP);
            m.table(0, mended > 4 ? 255 : 77).data(mended > 5 ? 0 : 60, 1);
            int[] places = {m.importAt(0), m.bodyAt(0, 0), m.functionAt(1), m.bodyAt(1, 0), m.entryAt(1), m.dataAt(0), -1};
            Kit.loads(mended + " mended", new WasmSandbox(), 0, mended == 6 ? WasmSandbox.OK : WasmSandbox.INVALID, places[mended], m.bytes());
        }
    }

    private static void firstImport() {
        Kit.sentence("LINK: the first import (place: its byte what) that does not fit");
        for (int i = 0; i < 3; i++) {
            Mod module = new Mod().type(b(1));
            for (int k = 0; k < 3; k++) {
                module.imports(0, k < i ? 16 : 18);
            }
            for (int slot = 0; slot <= 1; slot++) {
                fails("import " + i, slot, WasmSandbox.LINK, module.importAt(i) + 1, module);
            }
        }
    }

    /** Whether an import of each type fits; the type that does, as p -> r. */
    private static void fitsOnly(int what, int[] p, int r) {
        int[][] kinds = {{}, {1}, {2}, {1, 1}, {1, 2}, {1, 1, 1}};
        for (int[] q : kinds) {
            for (int s = 0; s <= 2; s++) {
                Mod module = new Mod().type(q, s == 0 ? NONE : b(s)).imports(0, what);
                boolean fits = java.util.Arrays.equals(p, q) && r == s;
                for (int slot = 0; slot <= 1; slot++) {
                    Kit.loads(what + " as " + java.util.Arrays.toString(q) + " -> " + s, new WasmSandbox(), slot, fits ? WasmSandbox.OK : WasmSandbox.LINK, fits ? -1 : module.importAt(0) + 1, module.bytes());
                }
            }
        }
    }

    private static void hostsPrint() {
        Kit.sentence("what 16 is the host's print, with one int parameter and no result");
        fitsOnly(16, b(1), 0);
    }

    private static void hostsInput() {
        Kit.sentence("17 the host's input, with no parameter and an int result");
        fitsOnly(17, NONE, 1);
    }

    private static void functionsOfSlot0() {
        Kit.sentence("for a module of slot 1 what 0..6 is that function of slot 0's module");
        Mod below = new Mod().type(NONE, 1).imports(0, 17).imports(0, 17).imports(0, 17);
        for (int f = 3; f <= 6; f++) {
            below.function(0, Kit.INT, f);
        }
        WasmSandbox x = Kit.loaded("seven functions", below.bytes());
        for (int what = 0; what <= 7; what++) {
            Mod above = new Mod().type(NONE, 1).imports(0, what).function(0, Kit.CALL, 0);
            boolean there = what <= 6;
            Kit.loads("what " + what, x, 1, there ? WasmSandbox.OK : WasmSandbox.LINK, there ? -1 : above.importAt(0) + 1, above.bytes());
            if (there) {
                Kit.gives("function " + what, x, 1, 1, what < 3 ? -1 : what);
            }
            fails("what " + what + " for slot 0", 0, WasmSandbox.LINK, above.importAt(0) + 1, above);
        }
    }

    private static void mustBeThere() {
        Kit.sentence("which must be there");
        for (int n = 0; n <= 4; n++) {
            // What the module before had is there no longer.
            WasmSandbox x = Kit.loaded("more functions before", withFunctions(0, 4).bytes());
            loads(n + " functions", x, 0, withFunctions(0, n));
            for (int what = 0; what <= 6; what++) {
                Mod above = new Mod().type(NONE).imports(0, what);
                boolean there = what < n;
                Kit.loads("what " + what + " of " + n, x, 1, there ? WasmSandbox.OK : WasmSandbox.LINK, there ? -1 : above.importAt(0) + 1, above.bytes());
            }
        }
        Mod above = new Mod().type(NONE).imports(0, 0);
        fails("no module in slot 0", 1, WasmSandbox.LINK, above.importAt(0) + 1, above);
    }

    private static void sameType() {
        Kit.sentence("and have the same parameters and result");
        int[][] kinds = {{}, {1}, {2}, {1, 1}, {1, 2}, {2, 1}, {1, 1, 1}, {1, 1, 2}};
        for (int[] p : kinds) {
            for (int r = 0; r <= 2; r++) {
                Mod below = new Mod().type(b(2, 2, 2), 2).type(p, r == 0 ? NONE : b(r)).function(1, Kit.TRAP);
                for (int[] q : kinds) {
                    for (int s = 0; s <= 2; s++) {
                        WasmSandbox x = Kit.loaded("below", below.bytes());
                        Mod above = new Mod().type(q, s == 0 ? NONE : b(s)).imports(0, 0);
                        boolean same = r == s && java.util.Arrays.equals(p, q);
                        String what = java.util.Arrays.toString(p) + " -> " + r + " as " + java.util.Arrays.toString(q) + " -> " + s;
                        Kit.loads(what, x, 1, same ? WasmSandbox.OK : WasmSandbox.LINK, same ? -1 : above.importAt(0) + 1, above.bytes());
                    }
                }
            }
        }
    }

    private static void nothingElseFits() {
        Kit.sentence("nothing else fits");
        Mod below = new Mod().type(NONE).function(0).function(0).function(0).function(0);
        for (int what = 0; what <= 255; what++) {
            Mod above = new Mod().type(NONE).imports(0, what);
            int place = above.importAt(0) + 1;
            fails("what " + what + " for slot 0", 0, WasmSandbox.LINK, place, above);
            if (what > 3) {
                WasmSandbox x = Kit.loaded("below", below.bytes());
                Kit.loads("what " + what + " for slot 1", x, 1, WasmSandbox.LINK, place, above.bytes());
            }
        }
        // Slot 0's module links to nothing of itself or of what is there already.
        WasmSandbox y = Kit.loaded("below", below.bytes());
        Mod again = new Mod().type(NONE).imports(0, 0).function(0);
        Kit.loads("slot 0 to slot 0", y, 0, WasmSandbox.LINK, again.importAt(0) + 1, again.bytes());
    }

    private static void asBefore() {
        Kit.sentence("After these the slot is as before.");
        Mod link = new Mod().type(NONE, 1).imports(0, 99).function(0, Kit.INT, 3).global(1, 0, 3).data(0, 3);
        Mod invalid = one(1, Kit.INT, 3, Kit.DROP, Kit.DROP).global(1, 0, 3).data(0, 3);
        int[][] wrong = {{9}, java.util.Arrays.copyOf(link.bytes(), link.bytes().length - 1), invalid.bytes(), link.bytes()};
        int[] outcomes = {WasmSandbox.MALFORMED, WasmSandbox.MALFORMED, WasmSandbox.INVALID, WasmSandbox.LINK};
        WasmSandbox x = new WasmSandbox();
        for (int slot = 0; slot <= 1; slot++) {
            loads("slot " + slot, x, slot, one(1, Kit.INT, 6, Kit.GSET, 0, Kit.INT, 0, Kit.INT, 6, Kit.STORE8, 0, Kit.INT, 7 + slot).global(1, 1, 1).memory());
            Kit.gives("run of slot " + slot, x, slot, 0, 7 + slot);
        }
        for (int slot = 0; slot <= 1; slot++) {
            for (int i = 0; i < wrong.length; i++) {
                Kit.put(x, wrong[i]);
                Kit.due("load into " + slot, x.load(slot), outcomes[i]);
                for (int s = 0; s <= 1; s++) {
                    Kit.due("global of " + s, x.global(s, 0), 6);
                    Kit.due("memory of " + s, x.memory(s, 0), 6);
                    Kit.gives("slot " + s, x, s, 0, 7 + s);
                }
            }
        }
        WasmSandbox y = new WasmSandbox();
        for (int i = 0; i < wrong.length; i++) {
            Kit.put(y, wrong[i]);
            Kit.due("load into an empty slot", y.load(0), outcomes[i]);
            Kit.due("it stays empty", y.invoke(0, 0, 0, 0, 0), WasmSandbox.BAD);
            Kit.due("without memory", y.memory(0, 0), -1);
            Kit.due("without globals", y.global(0, 0), 0);
        }
    }

    private static void slot1IsEmpty() {
        Kit.sentence("OK; if slot is 0, slot 1 is empty now.");
        Mod module = one(1, Kit.INT, 7).global(1, 0, 3).memory();
        WasmSandbox x = Kit.loaded("slot 0", module.bytes());
        Kit.due("load(1)", x.load(1), WasmSandbox.OK);
        Kit.gives("slot 0 stays", x, 0, 0, 7);
        Kit.gives("slot 1", x, 1, 0, 7);
        Kit.due("load(0)", x.load(0), WasmSandbox.OK);
        Kit.due("invoke", x.invoke(1, 0, 0, 0, 0), WasmSandbox.BAD);
        Kit.due("memory", x.memory(1, 0), -1);
        Kit.due("global", x.global(1, 0), 0);
        Kit.gives("slot 0", x, 0, 0, 7);
    }

    // ---- Promises 5 to 9

    private static void places() {
        Kit.sentence("The place of the latest load that was not BAD; -1 if that answered OK or there was none.");
        WasmSandbox x = new WasmSandbox();
        Kit.due("none", x.place(), -1);
        Kit.due("BAD", x.load(2), WasmSandbox.BAD);
        Kit.due("BAD alone", x.place(), -1);
        Kit.loads("MALFORMED", x, 0, WasmSandbox.MALFORMED, 1, 1, 4);
        Kit.due("BAD", x.load(-1), WasmSandbox.BAD);
        Kit.due("behind MALFORMED and BAD", x.place(), 1);
        Kit.due("put", x.put(1), true);
        Kit.due("clear", x.clear(), 3);
        Kit.due("behind clear", x.place(), 1);
        Mod invalid = one(0, Kit.DROP), link = new Mod().type(NONE).imports(0, 0);
        Kit.loads("INVALID", x, 0, WasmSandbox.INVALID, invalid.bodyAt(0, 0), invalid.bytes());
        Kit.due("BAD", x.load(MOST), WasmSandbox.BAD);
        Kit.due("behind INVALID and BAD", x.place(), invalid.bodyAt(0, 0));
        Kit.loads("OK", x, 0, WasmSandbox.OK, -1, SEVEN);
        Kit.due("BAD", x.load(LEAST), WasmSandbox.BAD);
        Kit.due("behind OK and BAD", x.place(), -1);
        Kit.loads("LINK", x, 0, WasmSandbox.LINK, link.importAt(0) + 1, link.bytes());
        Kit.due("a run", x.invoke(0, 0, 0, 0, 0), WasmSandbox.DONE);
        Kit.due("behind a run", x.place(), link.importAt(0) + 1);
    }

    private static void arguments() {
        Kit.sentence("with as many of a, b, c as it has parameters (an int takes the low 32 bits)");
        long big = 0x123456789ABCDEF0L;
        for (int n = 0; n <= 3; n++) {
            for (int v = 0; v < n; v++) {
                WasmSandbox ints = Kit.loaded("ints", new Mod().type(Kit.many(n, 1), 1).function(0, Kit.GET, v).bytes());
                WasmSandbox longs = Kit.loaded("longs", new Mod().type(Kit.many(n, 2), 2).function(0, Kit.GET, v).bytes());
                for (int i = 0; i < 3; i++) {
                    long[] a = {1, 2, 3};
                    a[i] = big;
                    Kit.gives("int " + v + " of " + n, ints, 0, 0, (int) a[v], a);
                    Kit.gives("long " + v + " of " + n, longs, 0, 0, a[v], a);
                }
                long[] least = {1L << 31, 1L << 31, 1L << 31};
                Kit.gives("the least int", ints, 0, 0, LEAST, least);
                Kit.gives("no int but a long", longs, 0, 0, 1L << 31, least);
            }
        }
        Kit.gives("none", Kit.loaded("none", SEVEN), 0, 0, 7, big, big, big);
        WasmSandbox mixed = Kit.loaded("mixed", new Mod().type(b(2, 1, 2), 2).function(0, Kit.GET, 0, Kit.GET, 1, Kit.EXTEND, Kit.ADD + Kit.L, Kit.GET, 2, Kit.ADD + Kit.L).bytes());
        Kit.gives("mixed", mixed, 0, 0, big + -1 + big, big, 0xFFFFFFFFL, big);
    }

    private static void invokeBad() {
        Kit.sentence("BAD, changing nothing, if the slot is outside 0..1 or empty, or it has no function f or f is an import.");
        Mod module = new Mod().type(b(1)).type(NONE, 1).imports(0, 16).function(1, Kit.INT, 6, Kit.GSET, 0, Kit.INT, 9, Kit.CALL, 0, Kit.CALL, 2).function(1, Kit.INT, 5).global(1, 1, 1);
        WasmSandbox x = Kit.loaded("module", module.bytes());
        Kit.gives("run", x, 0, 1, 5);
        int[][] wrong = {{-1, 1}, {2, 1}, {LEAST, 1}, {MOST, 1}, {1, 1}, {1, 0}, {0, 0}, {0, 3}, {0, -1}, {0, LEAST}, {0, MOST}, {0, 255}};
        Kit.due("feed", x.feed(3), true);
        for (int[] w : wrong) {
            Kit.due("invoke(" + w[0] + ", " + w[1] + ")", x.invoke(w[0], w[1], 1, 2, 3), WasmSandbox.BAD);
            Kit.due("result", x.result(), 5);
            Kit.due("trappedAt", x.trappedAt(), -1);
            Kit.due("used", x.used(), 1);
            Kit.due("printed", x.printed(-1), 1);
            Kit.due("global", x.global(0, 0), 6);
        }
        Kit.due("the empty slot", new WasmSandbox().invoke(0, 0, 0, 0, 0), WasmSandbox.BAD);
    }

    private static void results() {
        Kit.sentence("its result after DONE (an int as a long); 0 if there is none");
        WasmSandbox x = new WasmSandbox();
        Kit.due("no invoke", x.result(), 0);
        Mod module = new Mod().type(b(1), 1).type(b(2), 2).type(b(1)).function(0, Kit.GET, 0).function(1, Kit.GET, 0).function(2).function(0, Kit.TRAP);
        loads("module", x, 0, module);
        for (int v : new int[] {-1, LEAST, MOST}) {
            Kit.gives("an int", x, 0, 0, v, v);
            Kit.gives("no result", x, 0, 2, 0, v);
            Kit.gives("a long", x, 0, 1, v + (1L << 40), v + (1L << 40));
            Kit.traps("a trap", x, 0, 3, WasmSandbox.UNREACHABLE, module.bodyAt(3, 0), v);
        }
        Kit.gives("a result", x, 0, 0, 4, 4);
        Kit.due("BAD", x.invoke(0, 9, 0, 0, 0), WasmSandbox.BAD);
        Kit.due("behind BAD", x.result(), 4);
    }

    private static void trappedAt() {
        Kit.sentence("after a trap 1000 * the slot of the module of the instruction + its place (the byte's number in that module); else -1");
        WasmSandbox x = new WasmSandbox();
        Kit.due("no invoke", x.trappedAt(), -1);
        Mod below = new Mod().type(NONE).function(0, Kit.NOP, Kit.TRAP);
        Mod above = new Mod().type(NONE).type(NONE, 1).imports(0, 0).function(0, Kit.CALL, 0).function(0, Kit.TRAP).function(1, Kit.INT, 1);
        loads("below", x, 0, below);
        loads("above", x, 1, above);
        Kit.traps("in slot 0", x, 0, 0, WasmSandbox.UNREACHABLE, below.bodyAt(0, 1));
        Kit.traps("in slot 1", x, 1, 2, WasmSandbox.UNREACHABLE, 1000 + above.bodyAt(1, 0));
        Kit.traps("in slot 0, called from slot 1", x, 1, 1, WasmSandbox.UNREACHABLE, below.bodyAt(0, 1));
        Kit.due("BAD", x.invoke(1, 0, 0, 0, 0), WasmSandbox.BAD);
        Kit.due("behind BAD", x.trappedAt(), below.bodyAt(0, 1));
        Kit.gives("behind DONE", x, 1, 3, 1);
        Mod diving = new Mod().type(b(1)).type(NONE).imports(1, 0).function(0, Kit.GET, 0, Kit.IF, 0, Kit.GET, 0, Kit.INT, 1, Kit.SUB, Kit.CALL, 1, Kit.ELSE, Kit.CALL, 0, Kit.END);
        loads("diving", x, 1, diving);
        Kit.traps("in slot 0, the tenth that is active", x, 1, 1, WasmSandbox.UNREACHABLE, below.bodyAt(0, 1), 8);
        int[] last = one(0, j(Kit.many(128, Kit.NOP), b(Kit.TRAP))).bytes();
        Kit.loads("140 bytes", x, 1, WasmSandbox.OK, -1, last);
        Kit.traps("far behind", x, 1, 0, WasmSandbox.UNREACHABLE, 1135);
    }

    private static void used() {
        Kit.sentence("the FUEL used up; 0 if there was none");
        WasmSandbox x = new WasmSandbox();
        Kit.due("no invoke", x.used(), 0);
        Kit.due("BAD", x.invoke(0, 0, 0, 0, 0), WasmSandbox.BAD);
        Kit.due("behind BAD alone", x.used(), 0);
        loads("module", x, 0, new Mod().type(NONE).function(0).function(0, Kit.CALL, 0, Kit.CALL, 0).function(0, Kit.LOOP, 0, Kit.BR, 0, Kit.END).function(0, Kit.CALL, 0, Kit.TRAP));
        int[] want = {0, 2, 120, 1};
        int[] outcomes = {WasmSandbox.DONE, WasmSandbox.DONE, WasmSandbox.FUEL, WasmSandbox.UNREACHABLE};
        for (int f : new int[] {0, 1, 2, 3, 2, 1, 0, 3}) {
            Kit.due("invoke of " + f, x.invoke(0, f, 0, 0, 0), outcomes[f]);
            Kit.due("used by " + f, x.used(), want[f]);
            Kit.due("BAD", x.invoke(0, 4, 0, 0, 0), WasmSandbox.BAD);
            Kit.due("used by " + f + ", behind BAD", x.used(), want[f]);
        }
    }

    // ---- Promises 10 to 13

    private static void memory() {
        Kit.sentence("Byte i of a slot's memory (0..255); -1 if there is no such byte or memory.");
        WasmSandbox x = new WasmSandbox();
        loads("slot 0", x, 0, new Mod().data(0, 255, 128).data(46, 0, 254));
        loads("slot 1 without memory", x, 1, new Mod());
        Kit.due("the first", x.memory(0, 0), 255);
        Kit.due("the second", x.memory(0, 1), 128);
        Kit.due("the last but one", x.memory(0, 46), 0);
        Kit.due("the last", x.memory(0, 47), 254);
        for (int i : new int[] {-1, 48, 49, 96, LEAST, MOST, -48}) {
            Kit.due("byte " + i, x.memory(0, i), -1);
        }
        for (int i = -1; i <= 48; i++) {
            Kit.due("byte " + i + " of no memory", x.memory(1, i), -1);
        }
        for (int slot : NO_SLOTS) {
            Kit.due("slot " + slot, x.memory(slot, 0), -1);
        }
        Kit.due("an empty slot", new WasmSandbox().memory(0, 0), -1);
        Kit.due("another", new WasmSandbox().memory(1, 47), -1);
    }

    private static void global() {
        Kit.sentence("Global g of a slot (an int as a long); 0 if there is none.");
        int[] least = {128, 128, 128, 128, 120}, leastLong = Kit.join(Kit.many(9, 128), b(127));
        for (int n = 0; n <= 3; n++) {
            WasmSandbox x = new WasmSandbox();
            for (int slot = 0; slot <= 1; slot++) {
                Mod module = new Mod();
                for (int g = 0; g < n; g++) {
                    module.global(g == 1 ? 2 : 1, 0, g == 0 ? b(127) : g == 1 ? leastLong : least);
                }
                loads(n + " globals", x, slot, module);
            }
            long[] want = {-1, Long.MIN_VALUE, LEAST};
            for (int g = -1; g <= 4; g++) {
                for (int slot = -1; slot <= 2; slot++) {
                    boolean there = g >= 0 && g < n && slot >= 0 && slot <= 1;
                    Kit.due("global " + g + " of " + n + " in slot " + slot, x.global(slot, g), there ? want[g] : 0);
                }
            }
            for (int g : new int[] {LEAST, MOST, 255}) {
                Kit.due("global " + g, x.global(0, g), 0);
            }
            for (int slot : NO_SLOTS) {
                Kit.due("slot " + slot, x.global(slot, 0), 0);
            }
        }
    }

    private static void feedInOrder() {
        Kit.sentence("Lets v wait as the host's input (taken in order");
        WasmSandbox x = Kit.loaded("host", HOST.bytes());
        int[] values = {LEAST, MOST, 0, -1, 5};
        for (int round = 0; round < 6; round++) {
            for (int i = 0; i < values.length; i++) {
                Kit.due("feed", x.feed(values[i] + round), true);
            }
            for (int i = 0; i < values.length; i++) {
                Kit.gives("input", x, 0, 3, values[i] + round);
            }
        }
        Kit.due("feed for slot 1", x.feed(77), true);
        Kit.due("load(1)", x.load(1), WasmSandbox.OK);
        Kit.gives("the input waits for both slots", x, 1, 3, 77);
    }

    private static void noneWaits() {
        Kit.sentence("where none waits input gives -1");
        WasmSandbox x = Kit.loaded("host", HOST.bytes());
        Kit.gives("none was fed", x, 0, 3, -1);
        Kit.due("feed", x.feed(4), true);
        Kit.gives("one was fed", x, 0, 3, 4);
        Kit.gives("one was taken", x, 0, 3, -1);
        Kit.gives("none again", x, 0, 3, -1);
        for (int i = 0; i < 8; i++) {
            Kit.due("feed", x.feed(i), true);
        }
        for (int i = 0; i < 10; i++) {
            Kit.gives("input " + i, x, 0, 3, i < 8 ? i : -1);
        }
    }

    private static void eightWait() {
        Kit.sentence("False, changing nothing, if 8 wait.");
        WasmSandbox x = Kit.loaded("host", HOST.bytes());
        for (int i = 0; i < 8; i++) {
            Kit.due("feed " + i, x.feed(i), true);
        }
        Kit.due("a ninth", x.feed(99), false);
        Kit.due("a tenth", x.feed(98), false);
        Kit.gives("the first", x, 0, 3, 0);
        Kit.due("one more", x.feed(8), true);
        Kit.due("and no other", x.feed(97), false);
        for (int i = 1; i <= 8; i++) {
            Kit.gives("input " + i, x, 0, 3, i);
        }
        Kit.gives("none is left", x, 0, 3, -1);
    }

    /** What is printed is 100 more each time. */
    private static WasmSandbox printing(int n) {
        WasmSandbox x = Kit.loaded("host", HOST.bytes());
        for (int i = 1; i <= n; i++) {
            Kit.gives("print", x, 0, 2, 0, 100 * i);
        }
        return x;
    }

    private static void printedFromLatest() {
        Kit.sentence("The int that the host's print got as the k-th counted from the latest (0); 0 if there were not so many");
        for (int n : new int[] {0, 1, 2, 15, 16, 17, 31, 32, 33}) {
            WasmSandbox x = printing(n);
            for (int k = 0; k <= 15; k++) {
                Kit.due("print " + k + " of " + n, x.printed(k), k < n ? 100 * (n - k) : 0);
            }
        }
        WasmSandbox y = printing(1);
        Kit.gives("the least", y, 0, 2, 0, LEAST);
        Kit.due("the least", y.printed(0), LEAST);
        Kit.gives("the low 32 bits", y, 0, 2, 0, 1L << 31 | 1L << 40);
        Kit.due("the low 32 bits", y.printed(0), LEAST);
    }

    private static void printedOutside() {
        Kit.sentence("0 if .. k is outside 0..15");
        WasmSandbox x = printing(40);
        Kit.due("15", x.printed(15), 2500);
        for (int k : new int[] {16, 17, 39, 40, -2, -16, LEAST, MOST}) {
            Kit.due("printed(" + k + ")", x.printed(k), 0);
        }
    }

    private static void howMany() {
        Kit.sentence("k = -1: how many it got");
        for (int n : new int[] {0, 1, 15, 16, 17, 40}) {
            Kit.due(n + " prints", printing(n).printed(-1), n);
        }
        // 25 in each turn of a loop.
        Mod many = new Mod().type(b(1)).imports(0, 16).function(0, j(b(Kit.LOOP, 0), Kit.many(25, Kit.GET, 0, Kit.CALL, 0), b(Kit.GET, 0, Kit.INT, 1, Kit.SUB, Kit.TEE, 0, Kit.BR_IF, 0, Kit.END)));
        WasmSandbox x = Kit.loaded("many", many.bytes());
        Kit.gives("121 turns", x, 0, 1, 0, 121);
        Kit.due("25 prints a turn", x.printed(-1), 25 * 121);
        Kit.gives("121 turns again", x, 0, 1, 0, 121);
        Kit.due("twice as many", x.printed(-1), 50 * 121);
        Kit.due("the latest", x.printed(15), 1);
    }
}
