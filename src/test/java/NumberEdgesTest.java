/** The edges of RUNNING: numbers and memory. One method a sentence. */
public final class NumberEdgesTest {
    private static final int[] NONE = {};
    private static final int L = Kit.L;
    private static final int LEAST = Integer.MIN_VALUE, MOST = Integer.MAX_VALUE;
    private static final long LEAST_LONG = Long.MIN_VALUE, MOST_LONG = Long.MAX_VALUE;

    public static void main(String[] args) {
        wrapping();
        asTheNamesSay();
        signed();
        unsigned();
        shifts();
        byZero();
        overflow();
        eqz();
        extend();
        addresses();
        addedWithoutWrapping();
        notAllBytes();
        load8();
        lowestByte();
        Kit.end();
    }

    private static int[] b(int... bytes) {
        return bytes;
    }

    private static Mod one(int[] parameters, int r, int... body) {
        return new Mod().type(parameters, r == 0 ? NONE : b(r)).function(0, body);
    }

    private static WasmSandbox load(String what, Mod module) {
        return Kit.loaded(what, module.bytes());
    }

    // ---- Numbers

    private static void ints(int op, long a, long b, long want) {
        String what = "int " + op + " of " + a + " and " + b;
        Kit.gives(what, load(what, one(b(1, 1), 1, Kit.GET, 0, Kit.GET, 1, op)), 0, 0, want, a, b);
    }

    private static void longs(int op, long a, long b, long want) {
        String what = "long " + op + " of " + a + " and " + b;
        int r = op < Kit.ADD ? 1 : 2;
        Kit.gives(what, load(what, one(b(2, 2), r, Kit.GET, 0, Kit.GET, 1, op + L)), 0, 0, want, a, b);
    }

    private static void wrapping() {
        Kit.sentence("ints of 32, longs of 64 bits, wrapping");
        ints(Kit.ADD, MOST, 1, LEAST);
        ints(Kit.ADD, LEAST, -1, MOST);
        ints(Kit.ADD, LEAST, LEAST, 0);
        ints(Kit.SUB, LEAST, 1, MOST);
        ints(Kit.SUB, 0, LEAST, LEAST);
        ints(Kit.MUL, 65536, 65536, 0);
        ints(Kit.MUL, MOST, 2, -2);
        ints(Kit.MUL, LEAST, -1, LEAST);
        ints(Kit.SHL, 1, 31, LEAST);
        ints(Kit.SHL, 3, 31, LEAST);
        longs(Kit.ADD, MOST, 1, 1L << 31);
        longs(Kit.ADD, MOST_LONG, 1, LEAST_LONG);
        longs(Kit.ADD, LEAST_LONG, -1, MOST_LONG);
        longs(Kit.SUB, LEAST_LONG, 1, MOST_LONG);
        longs(Kit.SUB, 0, LEAST_LONG, LEAST_LONG);
        longs(Kit.MUL, 1L << 32, 1L << 32, 0);
        longs(Kit.MUL, 1L << 31, 2, 1L << 32);
        longs(Kit.MUL, LEAST_LONG, -1, LEAST_LONG);
        longs(Kit.SHL, 1, 32, 1L << 32);
        longs(Kit.SHL, 3, 63, LEAST_LONG);
    }

    private static void asTheNamesSay() {
        Kit.sentence("As the names say");
        for (long v : new long[] {0, -1, LEAST, MOST}) {
            ints(Kit.EQ, v, v, 1);
            ints(Kit.NE, v, v, 0);
            ints(Kit.EQ, v, v ^ 1, 0);
            ints(Kit.NE, v, v ^ 1, 1);
            longs(Kit.EQ, v, v, 1);
            longs(Kit.NE, v, v, 0);
            longs(Kit.EQ, v, v ^ 1L << 63, 0);
            longs(Kit.NE, v, v ^ 1L << 32, 1);
        }
        ints(Kit.EQ, 5, 5 + (1L << 32), 1);
        ints(Kit.AND, 12, 10, 8);
        ints(Kit.OR, 12, 10, 14);
        ints(Kit.XOR, 12, 10, 6);
        ints(Kit.AND, LEAST, -1, LEAST);
        ints(Kit.OR, LEAST, MOST, -1);
        ints(Kit.XOR, LEAST, -1, MOST);
        longs(Kit.AND, LEAST_LONG + 12, -1 << 3, LEAST_LONG + 8);
        longs(Kit.OR, LEAST_LONG, MOST_LONG, -1);
        longs(Kit.XOR, LEAST_LONG, -1, MOST_LONG);
    }

    private static void signed() {
        Kit.sentence("LT, LE, DIV, REM, SHR signed");
        ints(Kit.LT, -1, 0, 1);
        ints(Kit.LT, 0, -1, 0);
        ints(Kit.LT, LEAST, MOST, 1);
        ints(Kit.LT, 5, 5, 0);
        ints(Kit.LE, MOST, LEAST, 0);
        ints(Kit.LE, LEAST, MOST, 1);
        ints(Kit.LE, 5, 5, 1);
        ints(Kit.DIV, -7, 2, -3);
        ints(Kit.DIV, 7, -2, -3);
        ints(Kit.DIV, LEAST, 1, LEAST);
        ints(Kit.REM, -7, 2, -1);
        ints(Kit.REM, 7, -2, 1);
        ints(Kit.SHR, -1, 31, -1);
        ints(Kit.SHR, LEAST, 4, LEAST >> 4);
        longs(Kit.LT, -1, 0, 1);
        longs(Kit.LT, LEAST_LONG, MOST_LONG, 1);
        longs(Kit.LT, 5, 5, 0);
        longs(Kit.LE, MOST_LONG, LEAST_LONG, 0);
        longs(Kit.LE, 5, 5, 1);
        longs(Kit.DIV, -7, 2, -3);
        longs(Kit.DIV, LEAST_LONG, 1, LEAST_LONG);
        longs(Kit.REM, -7, 2, -1);
        longs(Kit.REM, 7, -2, 1);
        longs(Kit.SHR, -1, 63, -1);
        longs(Kit.SHR, LEAST_LONG, 4, LEAST_LONG >> 4);
    }

    private static void unsigned() {
        Kit.sentence("LTU, DIVU, SHRU unsigned");
        ints(Kit.LTU, -1, 0, 0);
        ints(Kit.LTU, 0, -1, 1);
        ints(Kit.LTU, MOST, LEAST, 1);
        ints(Kit.LTU, -1, -1, 0);
        ints(Kit.LTU, -2, -1, 1);
        ints(Kit.DIVU, -1, 2, MOST);
        ints(Kit.DIVU, -1, 1, -1);
        ints(Kit.DIVU, -1, -1, 1);
        ints(Kit.DIVU, -2, -1, 0);
        ints(Kit.DIVU, LEAST, -1, 0);
        ints(Kit.DIVU, -1, 10, 429496729);
        ints(Kit.SHRU, -1, 31, 1);
        ints(Kit.SHRU, LEAST, 0, LEAST);
        longs(Kit.LTU, -1, 0, 0);
        longs(Kit.LTU, 0, -1, 1);
        longs(Kit.LTU, MOST_LONG, LEAST_LONG, 1);
        longs(Kit.LTU, -2, -1, 1);
        longs(Kit.DIVU, -1, 2, MOST_LONG);
        longs(Kit.DIVU, -1, 1, -1);
        longs(Kit.DIVU, -1, -1, 1);
        longs(Kit.DIVU, -2, -1, 0);
        longs(Kit.DIVU, LEAST_LONG, -1, 0);
        longs(Kit.DIVU, -1, 10, 1844674407370955161L);
        longs(Kit.DIVU, -1, MOST_LONG, 2);
        longs(Kit.SHRU, -1, 63, 1);
        longs(Kit.SHRU, LEAST_LONG, 0, LEAST_LONG);
    }

    private static void shifts() {
        Kit.sentence("shifts by the low 5 (6) bits");
        for (int by : new int[] {0, 1, 31, 32, 33, 63, 64, 65, -1, -31, -32, LEAST, MOST}) {
            ints(Kit.SHL, 12345, by, 12345 << (by & 31));
            ints(Kit.SHR, -12345, by, -12345 >> (by & 31));
            ints(Kit.SHRU, -12345, by, -12345 >>> (by & 31));
            longs(Kit.SHL, 12345, by, 12345L << (by & 63));
            longs(Kit.SHR, -12345, by, -12345L >> (by & 63));
            longs(Kit.SHRU, -12345, by, -12345L >>> (by & 63));
        }
        longs(Kit.SHL, 1, 1L << 32, 1);
        longs(Kit.SHL, 1, LEAST_LONG + 1, 2);
    }

    private static void binaryTraps(String what, int op, int kind, long a, long c, int trap) {
        Mod module = one(b(kind, kind), kind, Kit.GET, 0, Kit.GET, 1, kind == 1 ? op : op + L);
        Kit.traps(what, load(what, module), 0, 0, trap, module.bodyAt(0, 4), a, c);
    }

    private static void byZero() {
        Kit.sentence("DIV, DIVU, REM by 0: trap DIVIDE");
        for (int op = Kit.DIV; op <= Kit.REM; op++) {
            for (long a : new long[] {0, 1, -1, LEAST}) {
                binaryTraps("int " + op + " of " + a, op, 1, a, 0, WasmSandbox.DIVIDE);
                binaryTraps("int " + op + " by what is 0 in 32 bits", op, 1, a, 1L << 32, WasmSandbox.DIVIDE);
                binaryTraps("long " + op + " of " + a, op, 2, a, 0, WasmSandbox.DIVIDE);
            }
            binaryTraps("the least long by 0", op, 2, LEAST_LONG, 0, WasmSandbox.DIVIDE);
            longs(op, 0, 1L << 32, 0);
        }
    }

    private static void overflow() {
        Kit.sentence("DIV of the least number by -1: trap OVERFLOW (REM: 0)");
        binaryTraps("int", Kit.DIV, 1, LEAST, -1, WasmSandbox.OVERFLOW);
        binaryTraps("long", Kit.DIV, 2, LEAST_LONG, -1, WasmSandbox.OVERFLOW);
        ints(Kit.REM, LEAST, -1, 0);
        longs(Kit.REM, LEAST_LONG, -1, 0);
        ints(Kit.DIV, LEAST + 1, -1, MOST);
        ints(Kit.DIV, LEAST, -2, 1 << 30);
        longs(Kit.DIV, LEAST, -1, 1L << 31);
        longs(Kit.DIV, LEAST_LONG + 1, -1, MOST_LONG);
        longs(Kit.DIV, LEAST_LONG, -2, 1L << 62);
        ints(Kit.DIVU, LEAST, -1, 0);
        longs(Kit.DIVU, LEAST_LONG, -1, 0);
    }

    private static void eqz() {
        Kit.sentence("EQZ: 1 if it is 0, else 0");
        WasmSandbox x = load("EQZ", one(b(1), 1, Kit.GET, 0, Kit.EQZ)), y = load("long EQZ", one(b(2), 1, Kit.GET, 0, Kit.EQZ + L));
        for (long v : new long[] {0, 1, -1, LEAST, 1L << 32, LEAST_LONG}) {
            Kit.gives("EQZ of " + v, x, 0, 0, (int) v == 0 ? 1 : 0, v);
            Kit.gives("long EQZ of " + v, y, 0, 0, v == 0 ? 1 : 0, v);
        }
    }

    private static void extend() {
        Kit.sentence("EXTEND keeps the sign, EXTENDU brings in zeros");
        WasmSandbox x = load("EXTEND", one(b(1), 2, Kit.GET, 0, Kit.EXTEND)), y = load("EXTENDU", one(b(1), 2, Kit.GET, 0, Kit.EXTENDU));
        WasmSandbox z = load("WRAP", one(b(2), 1, Kit.GET, 0, Kit.WRAP));
        for (int v : new int[] {0, 1, -1, LEAST, MOST}) {
            Kit.gives("EXTEND of " + v, x, 0, 0, v, v);
            Kit.gives("EXTENDU of " + v, y, 0, 0, v & 0xFFFFFFFFL, v);
            Kit.gives("WRAP of " + v + " and more", z, 0, 0, v, v + (5L << 32));
        }
        Kit.gives("WRAP of the least long", z, 0, 0, 0, LEAST_LONG);
        Kit.gives("WRAP of 2 to the 31", z, 0, 0, LEAST, 1L << 31);
    }

    // ---- Memory

    private static final int[] LENGTHS = {1, 4, 8};

    private static Mod loading(int op, int o) {
        return one(b(1), op == Kit.LOAD64 ? 2 : 1, Kit.GET, 0, op, o).data(0, 1, 2, 3, 4, 5, 6, 7, 8).data(40, 11, 12, 13, 14, 15, 16, 17, 128);
    }

    private static Mod storing(int op, int o) {
        return one(b(1, op == Kit.STORE64 ? 2 : 1), 0, Kit.GET, 0, Kit.GET, 1, op, o).memory();
    }

    private static void bounds(String what, int i, int o, long address) {
        Mod reads = loading(Kit.LOAD8 + i, o), writes = storing(Kit.STORE8 + i, o);
        WasmSandbox x = load(what, reads), y = load(what, writes);
        String all = what + ": " + LENGTHS[i] + " bytes at " + address + " and " + o;
        Kit.traps("load, " + all, x, 0, 0, WasmSandbox.BOUNDS, reads.bodyAt(0, 2), address);
        Kit.traps("store, " + all, y, 0, 0, WasmSandbox.BOUNDS, writes.bodyAt(0, 4), address, -1);
        for (int k = 0; k < 48; k++) {
            Kit.due("nothing is stored at " + k + ", " + all, y.memory(0, k), 0);
        }
    }

    private static void inBounds(String what, int i, int o, long address) {
        WasmSandbox x = load(what, loading(Kit.LOAD8 + i, o)), y = load(what, storing(Kit.STORE8 + i, o));
        String all = what + ": " + LENGTHS[i] + " bytes at " + address + " and " + o;
        Kit.due("load, " + all, x.invoke(0, 0, address, 0, 0), WasmSandbox.DONE);
        Kit.due("store, " + all, y.invoke(0, 0, address, -1, 0), WasmSandbox.DONE);
        for (int k = 0; k < 48; k++) {
            boolean there = k >= address + o && k < address + o + LENGTHS[i];
            Kit.due("byte " + k + ", " + all, y.memory(0, k), there ? 255 : 0);
        }
    }

    private static void addresses() {
        Kit.sentence("Addresses count unsigned");
        for (int i = 0; i < 3; i++) {
            for (int address : new int[] {-1, -8, -47, -48, LEAST, MOST}) {
                bounds("an address", i, 0, address);
            }
            // Of an address as a long argument the low 32 bits count.
            Kit.due("2 to the 32", load("load", loading(Kit.LOAD8 + i, 0)).invoke(0, 0, 1L << 32, 0, 0), WasmSandbox.DONE);
        }
    }

    private static void addedWithoutWrapping() {
        Kit.sentence("o is added without wrapping");
        for (int i = 0; i < 3; i++) {
            for (int o : new int[] {1, 8, 47, 48, 128, 255}) {
                bounds("the address -o", i, o, -o);
                bounds("the address 1 - o", i, o, 1 - o - LENGTHS[i]);
            }
            bounds("255 and 0", i, 255, 0);
            bounds("the greatest", i, 255, MOST);
        }
    }

    private static void notAllBytes() {
        Kit.sentence("if not all bytes lie in the memory: trap BOUNDS");
        for (int i = 0; i < 3; i++) {
            int last = 48 - LENGTHS[i];
            inBounds("the first", i, 0, 0);
            inBounds("the last", i, 0, last);
            inBounds("the last by o", i, last, 0);
            inBounds("the last by both", i, 20, last - 20);
            bounds("one too far", i, 0, last + 1);
            bounds("one too far by o", i, last + 1, 0);
            bounds("one too far by both", i, 20, last - 19);
            bounds("behind all", i, 0, 48);
            bounds("behind all by o", i, 48, 0);
        }
    }

    private static void load8() {
        Kit.sentence("LOAD8 brings in zeros");
        WasmSandbox x = load("LOAD8", loading(Kit.LOAD8, 0));
        Kit.gives("128", x, 0, 0, 128, 47);
        Kit.gives("1", x, 0, 0, 1, 0);
        WasmSandbox y = load("LOAD32", loading(Kit.LOAD32, 0));
        Kit.gives("LOAD32 keeps the sign of its 32 bits", y, 0, 0, 0x8011100F, 44);
    }

    private static void lowestByte() {
        Kit.sentence("the lowest byte is at the lowest address");
        Kit.gives("LOAD32", load("LOAD32", loading(Kit.LOAD32, 1)), 0, 0, 0x06050403, 1);
        Kit.gives("LOAD64", load("LOAD64", loading(Kit.LOAD64, 40)), 0, 0, 0x8011100F0E0D0C0BL, 0);
        for (int i = 0; i < 3; i++) {
            WasmSandbox x = load("store", storing(Kit.STORE8 + i, 2));
            Kit.gives("store", x, 0, 0, 0, 3, 0xF1E2D3C4B5A69788L);
            int[] want = {0x88, 0x97, 0xA6, 0xB5, 0xC4, 0xD3, 0xE2, 0xF1};
            for (int k = 0; k < 10; k++) {
                Kit.due("byte " + k + " of " + LENGTHS[i], x.memory(0, 4 + k), k > 0 && k <= LENGTHS[i] ? want[k - 1] : 0);
            }
        }
    }
}
