/**
 * A sandbox for modules of typed stack code. A module is kept as its bytes together with the places
 * of its parts in them (FACTS); reading, validation and running all walk over these bytes.
 */
public final class WasmSandbox {
    public static final int OK = 0, MALFORMED = 1, INVALID = 2, LINK = 3, BAD = -1;
    public static final int DONE = 0, UNREACHABLE = 1, DIVIDE = 2, OVERFLOW = 3, BOUNDS = 4, TABLE = 5, EMPTY = 6, SIGNATURE = 7, DEPTH = 8, FUEL = 9;

    // What a run's outcome is while the run goes on.
    private static final int RUNNING = -1;

    // ANY is the kind that fits all: it comes from dead code alone.
    private static final int NONE = 0, INT = 1, LONG = 2, ANY = 3;

    private static final int TRAP = 0, NOP = 1, BLOCK = 2, LOOP = 3, IF = 4, ELSE = 5, END = 6;
    private static final int BR = 7, BR_IF = 8, BR_TABLE = 9, RETURN = 10, CALL = 11, CALL_INDIRECT = 12;
    private static final int DROP = 13, SELECT = 14, GET = 15, SET = 16, TEE = 17, GGET = 18, GSET = 19;
    private static final int CONST_INT = 20, CONST_LONG = 21;
    private static final int LOAD8 = 22, LOAD32 = 23, LOAD64 = 24, STORE8 = 25, STORE32 = 26, STORE64 = 27;
    private static final int EQZ = 28, EQ = 29, NE = 30, LT = 31, LTU = 32, LE = 33;
    private static final int ADD = 34, SUB = 35, MUL = 36, DIV = 37, DIVU = 38, REM = 39;
    private static final int AND = 40, OR = 41, XOR = 42, SHL = 43, SHR = 44, SHRU = 45;
    private static final int LONG_EQZ = 46, LONGS_BEHIND_INTS = 18;
    private static final int WRAP = 64, EXTEND = 65, EXTENDU = 66;

    private static final int PRINT = 16, INPUT = 17, LAST_FOREIGN = 6, NO_FUNCTION = 255;

    private static final int MOST_BYTES = 140, MOST_TYPES = 4, MOST_IMPORTS = 3, MOST_FUNCTIONS = 4;
    private static final int MOST_GLOBALS = 3, MOST_ENTRIES = 5, MOST_DATA = 2, MOST_DATA_BYTES = 8;
    private static final int MOST_PARAMETERS = 3, MOST_LOCALS = 3, MOST_VARIABLES = 6, MOST_TARGETS = 4;
    private static final int MOST_KINDS = 20, MOST_OPEN = 8, MOST_ACTIVE = 10, MOST_FUEL = 120;
    private static final int MEMORY_BYTES = 48, MOST_WAITING = 8, KEPT_PRINTS = 16, LAST_PRINT = 15;
    private static final int INT_CONST_BYTES = 5, LONG_CONST_BYTES = 10;

    // Far above what the fuel lets a run take (121 stretches of fewer than 140 instructions).
    private static final int MOST_STEPS = 1000000;

    private static final long LOW_32 = 0xFFFFFFFFL, LEAST_INT = -2147483648L, LEAST_LONG = -9223372036854775808L;

    // The bytes that were put are the code of a third module, the draft, so that a load that fails
    // leaves the slots alone.
    private static final int SLOTS = 2, DRAFT = 2, DRAFT_CODE = 280, DRAFT_FACTS = 44;

    // The facts of one module: FUNCTIONS counts the imports too; the names in _AT begin lists of places.
    private static final int TYPES = 0, IMPORTS = 1, FUNCTIONS = 2, GLOBALS = 3, ENTRIES = 4, MEMORY = 5;
    private static final int ENTRIES_AT = 6, DATA_AT = 7, TYPE_AT = 8, FUNCTION_AT = 12, GLOBAL_AT = 19;
    private static final int FACTS = 22;

    private static final int ALL_CODE = 420, ALL_FACTS = 66, ALL_GLOBALS = 6, ALL_MEMORIES = 96;
    private static final int ALL_FRAMES = 140, ALL_VALUES = 256, ALL_VARIABLES = 60;

    private final int[] code = new int[ALL_CODE];
    private final int[] facts = new int[ALL_FACTS];
    // Of an IF the place of its ELSE, where it has one; else of a BLOCK, LOOP, IF or ELSE that of its END.
    private final int[] partner = new int[ALL_CODE];
    private final boolean[] loaded = new boolean[SLOTS];
    private final long[] globals = new long[ALL_GLOBALS];
    private final int[] memories = new int[ALL_MEMORIES];
    private int byteCount = 0;
    private int wrongPlace = -1;

    // The place of the byte that is being read, or of the instruction that is being checked or run.
    private int at = 0;

    // The open BLOCKs, LOOPs, IFs and bodies: while reading, while checking, and of all active functions.
    private final int[] frameAt = new int[ALL_FRAMES];
    private final int[] frameHeight = new int[ALL_FRAMES];
    private final int[] frameResult = new int[MOST_OPEN];
    private final boolean[] frameDead = new boolean[MOST_OPEN];
    private int frameCount = 0;

    private final int[] kinds = new int[MOST_KINDS];
    private int kindCount = 0;

    private final long[] values = new long[ALL_VALUES];
    private int valueCount = 0;
    private final long[] variables = new long[ALL_VARIABLES];
    private final int[] activeSlot = new int[MOST_ACTIVE];
    private final int[] activeGives = new int[MOST_ACTIVE];
    private final int[] activeFrame = new int[MOST_ACTIVE];
    private final int[] activeResume = new int[MOST_ACTIVE];
    private int activeCount = 0;
    private int goesOn = 0;

    private int outcome = DONE;
    private long resultValue = 0;
    private int trapPlace = -1;
    private int fuelUsed = 0;

    private final int[] waiting = new int[MOST_WAITING];
    private int firstWaiting = 0;
    private int waitingCount = 0;
    private final int[] prints = new int[KEPT_PRINTS];
    private int printCount = 0;

    public WasmSandbox() {
    }

    public boolean put(int b) {
        if (b < 0 || b > 255 || byteCount >= MOST_BYTES) {
            return false;
        }
        code[DRAFT_CODE + byteCount] = b;
        byteCount++;
        return true;
    }

    public int clear() {
        int removed = byteCount;
        byteCount = 0;
        return removed;
    }

    public int load(int slot) {
        if (!isSlot(slot)) {
            return BAD;
        }
        at = 0;
        boolean read = readTypes() && readImports() && readFunctions() && readGlobals() && readEntries() && readMemory();
        if (!read || at != byteCount) {
            wrongPlace = at;
            return MALFORMED;
        }
        // In this order the places only rise, so the first fault is the one at the least place.
        boolean valid = checkImports() && checkFunctions() && checkEntries() && checkData();
        if (!valid) {
            wrongPlace = at;
            return INVALID;
        }
        if (!checkLinks(slot)) {
            wrongPlace = at;
            return LINK;
        }
        copyDraft(slot);
        setGlobals(slot);
        setMemory(slot);
        loaded[slot] = true;
        if (slot == 0) {
            loaded[1] = false;
        }
        wrongPlace = -1;
        return OK;
    }

    public int place() {
        return wrongPlace;
    }

    public int invoke(int slot, int f, long a, long b, long c) {
        if (!isSlot(slot) || !loaded[slot]) {
            return BAD;
        }
        if (f < fact(slot, IMPORTS) || f >= fact(slot, FUNCTIONS)) {
            return BAD;
        }
        outcome = RUNNING;
        resultValue = 0;
        trapPlace = -1;
        fuelUsed = 0;
        activeCount = 0;
        frameCount = 0;
        valueCount = 0;
        pushArguments(slot, f, a, b, c);
        begin(slot, f);
        at = goesOn;
        for (int i = 0; i < MOST_STEPS && outcome == RUNNING; i++) {
            step();
        }
        if (outcome != DONE) {
            int active = last(activeCount, MOST_ACTIVE);
            trapPlace = 1000 * activeSlot[active] + at;
        }
        return outcome;
    }

    public long result() {
        return resultValue;
    }

    public int trappedAt() {
        return trapPlace;
    }

    public int used() {
        return fuelUsed;
    }

    public int memory(int slot, int i) {
        if (!isSlot(slot) || !loaded[slot] || fact(slot, MEMORY) == 0) {
            return -1;
        }
        return i < 0 || i >= MEMORY_BYTES ? -1 : memories[slot * MEMORY_BYTES + i];
    }

    public long global(int slot, int g) {
        if (!isSlot(slot) || !loaded[slot] || g < 0 || g >= fact(slot, GLOBALS)) {
            return 0;
        }
        return globals[slot * MOST_GLOBALS + g];
    }

    public boolean feed(int v) {
        if (waitingCount >= MOST_WAITING) {
            return false;
        }
        waiting[(firstWaiting + waitingCount) % MOST_WAITING] = v;
        waitingCount++;
        return true;
    }

    public int printed(int k) {
        if (k == -1) {
            return printCount;
        }
        if (k < 0 || k >= KEPT_PRINTS || k >= printCount) {
            return 0;
        }
        return prints[printCount - 1 - k & LAST_PRINT];
    }

    // ---- The parts of a module

    private static boolean isSlot(int slot) {
        return slot == 0 || slot == 1;
    }

    /* The last of so many things in an array of this length. */
    private static int last(int count, int length) {
        return count < 1 ? 0 : count > length ? length - 1 : count - 1;
    }

    private int byteAt(int m, int p) {
        return m < 0 || m > DRAFT || p < 0 || p >= MOST_BYTES ? 0 : code[m * MOST_BYTES + p];
    }

    private int partnerOf(int m, int p) {
        return m < 0 || m > DRAFT || p < 0 || p >= MOST_BYTES ? 0 : partner[m * MOST_BYTES + p];
    }

    private int fact(int m, int which) {
        return m < 0 || m > DRAFT || which < 0 || which >= FACTS ? 0 : facts[m * FACTS + which];
    }

    private int typeOf(int m, int f) {
        int p = fact(m, FUNCTION_AT + f);
        return byteAt(m, p);
    }

    private int resultOf(int m, int type) {
        int start = fact(m, TYPE_AT + type);
        int r = start + 1 + byteAt(m, start);
        return byteAt(m, r) == 0 ? NONE : byteAt(m, r + 1);
    }

    /* NONE if the draft's function f has no variable v. */
    private int variableKind(int f, int v) {
        int p = fact(DRAFT, FUNCTION_AT + f);
        int type = byteAt(DRAFT, p);
        int start = fact(DRAFT, TYPE_AT + type);
        int parameters = byteAt(DRAFT, start);
        if (v < parameters) {
            return byteAt(DRAFT, start + 1 + v);
        }
        int locals = byteAt(DRAFT, p + 1);
        int local = v - parameters;
        return local < locals ? byteAt(DRAFT, p + 2 + local) : NONE;
    }

    private int bodyOf(int m, int f) {
        int localsAt = fact(m, FUNCTION_AT + f) + 1;
        return localsAt + 1 + byteAt(m, localsAt);
    }

    /* A type has but one form in bytes, and no form begins another, so equal bytes mean equal types. */
    private boolean sameType(int m, int type, int otherM, int otherType) {
        int one = fact(m, TYPE_AT + type);
        int other = fact(otherM, TYPE_AT + otherType);
        int parameters = byteAt(m, one);
        int length = 2 + parameters + byteAt(m, one + 1 + parameters);
        for (int i = 0; i < length; i++) {
            if (byteAt(m, one + i) != byteAt(otherM, other + i)) {
                return false;
            }
        }
        return true;
    }

    private static boolean hasOperand(int op) {
        boolean control = op >= BLOCK && op <= IF || op == BR || op == BR_IF || op == CALL || op == CALL_INDIRECT;
        return control || op >= GET && op <= GSET || op >= LOAD8 && op <= STORE64;
    }

    /* The place of the instruction that follows the one at p. */
    private int behind(int m, int p) {
        int op = byteAt(m, p);
        if (op == BR_TABLE) {
            return p + 3 + byteAt(m, p + 1);
        }
        if (op == CONST_INT || op == CONST_LONG) {
            int end = p + 1;
            for (int i = 1; i < LONG_CONST_BYTES && byteAt(m, end) > 127; i++) {
                end++;
            }
            return end + 1;
        }
        return hasOperand(op) ? p + 2 : p + 1;
    }

    private long constAt(int m, int p, int kind) {
        long value = 0;
        int shift = 0;
        int b = 128;
        for (int i = 0; i < LONG_CONST_BYTES && b > 127; i++) {
            b = byteAt(m, p + i);
            value |= (long) (b & 127) << shift;
            shift += 7;
        }
        if ((b & 64) != 0 && shift < 64) {
            value |= -1L << shift;
        }
        return kind == INT ? (int) value : value;
    }

    // ---- Reading: each method stops with false at the byte with which no module goes on

    /* -1 if the next byte is not there or outside its limits; else it is read. */
    private int readByte(int least, int most) {
        if (at < 0 || at >= byteCount || at >= MOST_BYTES) {
            return -1;
        }
        int b = code[DRAFT_CODE + at];
        if (b < least || b > most) {
            return -1;
        }
        at++;
        return b;
    }

    private boolean readAny(int n) {
        for (int i = 0; i < n; i++) {
            if (readByte(0, 255) < 0) {
                return false;
            }
        }
        return true;
    }

    private boolean readKinds(int most) {
        int n = readByte(0, most);
        for (int i = 0; i < n; i++) {
            if (readByte(INT, LONG) < 0) {
                return false;
            }
        }
        return n >= 0;
    }

    private boolean readConst(int kind) {
        int most = kind == INT ? INT_CONST_BYTES : LONG_CONST_BYTES;
        for (int i = 1; i <= most; i++) {
            int b = readByte(0, i == most ? 127 : 255);
            if (b <= 127) {
                return b >= 0;
            }
        }
        return false;
    }

    private boolean readTypes() {
        int n = readByte(0, MOST_TYPES);
        facts[DRAFT_FACTS + TYPES] = n;
        for (int i = 0; i < n; i++) {
            facts[DRAFT_FACTS + TYPE_AT + i] = at;
            if (!readKinds(MOST_PARAMETERS) || !readKinds(1)) {
                return false;
            }
        }
        return n >= 0;
    }

    private boolean readImports() {
        int n = readByte(0, MOST_IMPORTS);
        facts[DRAFT_FACTS + IMPORTS] = n;
        for (int i = 0; i < n; i++) {
            facts[DRAFT_FACTS + FUNCTION_AT + i] = at;
            if (!readAny(2)) {
                return false;
            }
        }
        return n >= 0;
    }

    private boolean readFunctions() {
        int n = readByte(0, MOST_FUNCTIONS);
        int first = fact(DRAFT, IMPORTS);
        facts[DRAFT_FACTS + FUNCTIONS] = first + n;
        for (int i = 0; i < n; i++) {
            facts[DRAFT_FACTS + FUNCTION_AT + first + i] = at;
            if (!readAny(1) || !readKinds(MOST_LOCALS) || !readBody()) {
                return false;
            }
        }
        return n >= 0;
    }

    private boolean readBody() {
        frameCount = 1;
        for (int i = 0; i < MOST_BYTES && frameCount > 0; i++) {
            if (!readInstruction()) {
                return false;
            }
        }
        return frameCount == 0;
    }

    private boolean readInstruction() {
        int start = at;
        int op = readByte(0, EXTENDU);
        switch (op) {
            case BLOCK:
            case LOOP:
            case IF:
                openRead(start);
                return readByte(NONE, LONG) >= 0;
            case ELSE:
                return pairElse(start);
            case END:
                pairEnd(start);
                return true;
            case BR_TABLE:
                int n = readByte(0, MOST_TARGETS);
                return n >= 0 && readAny(n + 1);
            case CONST_INT:
                return readConst(INT);
            case CONST_LONG:
                return readConst(LONG);
            default:
                return op >= 0 && (!hasOperand(op) || readAny(1));
        }
    }

    private void openRead(int start) {
        if (frameCount < ALL_FRAMES) {
            frameAt[frameCount] = start;
            frameCount++;
        }
        pair(start, 0);
    }

    private void pair(int p, int other) {
        if (p >= 0 && p < MOST_BYTES) {
            partner[DRAFT_CODE + p] = other;
        }
    }

    private boolean pairElse(int start) {
        int top = last(frameCount, ALL_FRAMES);
        int opener = frameAt[top];
        // The body's own frame has no opening byte, and no ELSE fits it.
        if (top > 0 && byteAt(DRAFT, opener) == IF && partnerOf(DRAFT, opener) == 0) {
            pair(opener, start);
            return true;
        }
        at = start;
        return false;
    }

    private void pairEnd(int start) {
        int top = last(frameCount, ALL_FRAMES);
        frameCount = top;
        if (top > 0) {
            int opener = frameAt[top];
            int other = partnerOf(DRAFT, opener);
            pair(other == 0 ? opener : other, start);
        }
    }

    private boolean readGlobals() {
        int n = readByte(0, MOST_GLOBALS);
        facts[DRAFT_FACTS + GLOBALS] = n;
        for (int i = 0; i < n; i++) {
            facts[DRAFT_FACTS + GLOBAL_AT + i] = at;
            int kind = readByte(INT, LONG);
            if (kind < 0 || readByte(0, 1) < 0 || !readConst(kind)) {
                return false;
            }
        }
        return n >= 0;
    }

    private boolean readEntries() {
        int n = readByte(0, MOST_ENTRIES);
        facts[DRAFT_FACTS + ENTRIES] = n;
        facts[DRAFT_FACTS + ENTRIES_AT] = at;
        return n >= 0 && readAny(n);
    }

    private boolean readMemory() {
        int has = readByte(0, 1);
        facts[DRAFT_FACTS + MEMORY] = has;
        facts[DRAFT_FACTS + DATA_AT] = at;
        if (has <= 0) {
            return has == 0;
        }
        int n = readByte(0, MOST_DATA);
        for (int i = 0; i < n; i++) {
            if (!readAny(1)) {
                return false;
            }
            int length = readByte(0, MOST_DATA_BYTES);
            if (length < 0 || !readAny(length)) {
                return false;
            }
        }
        return n >= 0;
    }

    // ---- Validation: each method stops with false where "at" is the place of the fault

    private boolean checkImports() {
        int n = fact(DRAFT, IMPORTS);
        for (int i = 0; i < n; i++) {
            at = fact(DRAFT, FUNCTION_AT + i);
            if (byteAt(DRAFT, at) >= fact(DRAFT, TYPES)) {
                return false;
            }
        }
        return true;
    }

    private boolean checkFunctions() {
        int n = fact(DRAFT, FUNCTIONS);
        for (int f = fact(DRAFT, IMPORTS); f < n; f++) {
            at = fact(DRAFT, FUNCTION_AT + f);
            int type = byteAt(DRAFT, at);
            if (type >= fact(DRAFT, TYPES)) {
                return false;
            }
            at = bodyOf(DRAFT, f);
            int wants = resultOf(DRAFT, type);
            kindCount = 0;
            frameCount = 0;
            openChecked(wants);
            for (int i = 0; i < MOST_BYTES && frameCount > 0; i++) {
                if (!checkInstruction(f)) {
                    return false;
                }
                at = behind(DRAFT, at);
            }
        }
        return true;
    }

    private boolean checkEntries() {
        int n = fact(DRAFT, ENTRIES);
        for (int i = 0; i < n; i++) {
            at = fact(DRAFT, ENTRIES_AT) + i;
            int f = byteAt(DRAFT, at);
            if (f >= fact(DRAFT, FUNCTIONS) && f != NO_FUNCTION) {
                return false;
            }
        }
        return true;
    }

    private boolean checkData() {
        if (fact(DRAFT, MEMORY) == 0) {
            return true;
        }
        at = fact(DRAFT, DATA_AT);
        int n = byteAt(DRAFT, at);
        at++;
        for (int i = 0; i < n; i++) {
            int length = byteAt(DRAFT, at + 1);
            if (byteAt(DRAFT, at) + length > MEMORY_BYTES) {
                return false;
            }
            at += 2 + length;
        }
        return true;
    }

    private boolean checkInstruction(int f) {
        int op = byteAt(DRAFT, at);
        int operand = byteAt(DRAFT, at + 1);
        switch (op) {
            case TRAP:
                return goDead();
            case NOP:
                return true;
            case BLOCK:
            case LOOP:
                return openChecked(operand);
            case IF:
                return take(INT) && openChecked(operand);
            case ELSE:
            case END:
                return checkEnd(op);
            case BR:
            case BR_IF:
                return checkBranch(op, operand);
            case BR_TABLE:
                return checkBranchTable(operand);
            case RETURN:
                return take(frameResult[0]) && goDead();
            case CALL:
            case CALL_INDIRECT:
                return checkCall(op, operand);
            case DROP:
                return takeTop() != NONE;
            case SELECT:
                return checkSelect();
            case GET:
            case SET:
            case TEE:
                return checkVariable(op, f, operand);
            case GGET:
            case GSET:
                return checkGlobal(op, operand);
            case CONST_INT:
                return give(INT);
            case CONST_LONG:
                return give(LONG);
            default:
                return op <= STORE64 ? checkAccess(op) : checkNumeric(op);
        }
    }

    /* What is wanted must be kind; NONE asks for nothing. */
    private boolean take(int kind) {
        if (kind == NONE) {
            return true;
        }
        int top = last(frameCount, MOST_OPEN);
        if (kindCount <= frameHeight[top]) {
            return frameDead[top];
        }
        kindCount--;
        return kinds[kindCount] == kind || kinds[kindCount] == ANY;
    }

    /* The kind that is there, whatever it is; NONE if there is none. */
    private int takeTop() {
        int top = last(frameCount, MOST_OPEN);
        if (kindCount <= frameHeight[top]) {
            return frameDead[top] ? ANY : NONE;
        }
        kindCount--;
        return kinds[kindCount];
    }

    private boolean give(int kind) {
        if (kind == NONE) {
            return true;
        }
        if (kindCount >= MOST_KINDS) {
            return false;
        }
        kinds[kindCount] = kind;
        kindCount++;
        return true;
    }

    private boolean goDead() {
        int top = last(frameCount, MOST_OPEN);
        frameDead[top] = true;
        kindCount = frameHeight[top];
        return true;
    }

    private boolean openChecked(int wants) {
        if (frameCount >= MOST_OPEN) {
            return false;
        }
        frameAt[frameCount] = at;
        frameHeight[frameCount] = kindCount;
        frameResult[frameCount] = wants;
        frameDead[frameCount] = false;
        frameCount++;
        return true;
    }

    private boolean checkEnd(int op) {
        int top = last(frameCount, MOST_OPEN);
        int wants = frameResult[top];
        if (!take(wants) || kindCount != frameHeight[top]) {
            return false;
        }
        if (op == ELSE) {
            frameDead[top] = false;
            return true;
        }
        int opener = frameAt[top];
        // An IF that has an ELSE is paired with that instead.
        if (wants != NONE && byteAt(DRAFT, opener) == IF && partnerOf(DRAFT, opener) == at) {
            return false;
        }
        frameCount--;
        return give(wants);
    }

    /* -1 if there is no label d. */
    private int labelWants(int d) {
        int frame = frameCount - 1 - d;
        if (frame < 0 || frame >= MOST_OPEN) {
            return -1;
        }
        // Frame 0 is the body, whose first byte may be a LOOP of its own.
        boolean loop = frame > 0 && byteAt(DRAFT, frameAt[frame]) == LOOP;
        return loop ? NONE : frameResult[frame];
    }

    private boolean checkBranch(int op, int d) {
        int wants = labelWants(d);
        if (wants < 0) {
            return false;
        }
        if (op == BR) {
            return take(wants) && goDead();
        }
        return take(INT) && take(wants) && give(wants);
    }

    private boolean checkBranchTable(int n) {
        int last = byteAt(DRAFT, at + 2 + n);
        int wants = labelWants(last);
        if (wants < 0) {
            return false;
        }
        for (int i = 0; i < n; i++) {
            int d = byteAt(DRAFT, at + 2 + i);
            if (labelWants(d) != wants) {
                return false;
            }
        }
        return take(INT) && take(wants) && goDead();
    }

    private boolean checkCall(int op, int operand) {
        if (op == CALL && operand >= fact(DRAFT, FUNCTIONS)) {
            return false;
        }
        int type = op == CALL ? typeOf(DRAFT, operand) : operand;
        if (type >= fact(DRAFT, TYPES)) {
            return false;
        }
        if (op == CALL_INDIRECT && !take(INT)) {
            return false;
        }
        int start = fact(DRAFT, TYPE_AT + type);
        for (int i = byteAt(DRAFT, start); i > 0; i--) {
            int kind = byteAt(DRAFT, start + i);
            if (!take(kind)) {
                return false;
            }
        }
        int gives = resultOf(DRAFT, type);
        return give(gives);
    }

    private boolean checkSelect() {
        if (!take(INT)) {
            return false;
        }
        int second = takeTop();
        int first = takeTop();
        if (first == NONE || second == NONE) {
            return false;
        }
        if (first == ANY) {
            return give(second);
        }
        return (second == first || second == ANY) && give(first);
    }

    private boolean checkVariable(int op, int f, int v) {
        int kind = variableKind(f, v);
        if (kind == NONE) {
            return false;
        }
        if (op == GET) {
            return give(kind);
        }
        return take(kind) && (op == SET || give(kind));
    }

    private boolean checkGlobal(int op, int g) {
        if (g >= fact(DRAFT, GLOBALS)) {
            return false;
        }
        int start = fact(DRAFT, GLOBAL_AT + g);
        int kind = byteAt(DRAFT, start);
        if (op == GGET) {
            return give(kind);
        }
        return byteAt(DRAFT, start + 1) == 1 && take(kind);
    }

    private boolean checkAccess(int op) {
        if (fact(DRAFT, MEMORY) == 0) {
            return false;
        }
        int kind = op == LOAD64 || op == STORE64 ? LONG : INT;
        if (op >= STORE8) {
            return take(kind) && take(INT);
        }
        return take(INT) && give(kind);
    }

    private boolean checkNumeric(int op) {
        if (op == WRAP) {
            return take(LONG) && give(INT);
        }
        if (op > WRAP) {
            return take(INT) && give(LONG);
        }
        int kind = op < LONG_EQZ ? INT : LONG;
        int plain = kind == INT ? op : op - LONGS_BEHIND_INTS;
        if (plain == EQZ) {
            return take(kind) && give(INT);
        }
        return take(kind) && take(kind) && give(plain < ADD ? INT : kind);
    }

    // ---- Linking

    private boolean checkLinks(int slot) {
        int n = fact(DRAFT, IMPORTS);
        for (int i = 0; i < n; i++) {
            at = fact(DRAFT, FUNCTION_AT + i) + 1;
            int type = typeOf(DRAFT, i);
            int what = byteAt(DRAFT, at);
            if (!fits(slot, type, what)) {
                return false;
            }
        }
        return true;
    }

    private boolean fits(int slot, int type, int what) {
        int start = fact(DRAFT, TYPE_AT + type);
        int parameters = byteAt(DRAFT, start);
        int second = byteAt(DRAFT, start + 1);
        int third = byteAt(DRAFT, start + 2);
        if (what == PRINT) {
            return parameters == 1 && second == INT && third == 0;
        }
        if (what == INPUT) {
            return parameters == 0 && second == 1 && third == INT;
        }
        if (slot != 1 || what > LAST_FOREIGN || !loaded[0] || what >= fact(0, FUNCTIONS)) {
            return false;
        }
        int foreignType = typeOf(0, what);
        return sameType(DRAFT, type, 0, foreignType);
    }

    private void copyDraft(int slot) {
        for (int i = 0; i < MOST_BYTES; i++) {
            code[slot * MOST_BYTES + i] = code[DRAFT_CODE + i];
            partner[slot * MOST_BYTES + i] = partner[DRAFT_CODE + i];
        }
        for (int i = 0; i < FACTS; i++) {
            facts[slot * FACTS + i] = facts[DRAFT_FACTS + i];
        }
    }

    private void setGlobals(int slot) {
        int n = fact(slot, GLOBALS);
        for (int g = 0; g < n; g++) {
            int start = fact(slot, GLOBAL_AT + g);
            int kind = byteAt(slot, start);
            globals[slot * MOST_GLOBALS + g] = constAt(slot, start + 2, kind);
        }
    }

    private void setMemory(int slot) {
        int base = slot * MEMORY_BYTES;
        for (int i = 0; i < MEMORY_BYTES; i++) {
            memories[base + i] = 0;
        }
        int p = fact(slot, DATA_AT);
        int n = fact(slot, MEMORY) == 0 ? 0 : byteAt(slot, p);
        p++;
        for (int i = 0; i < n; i++) {
            int offset = byteAt(slot, p);
            int length = byteAt(slot, p + 1);
            for (int k = 0; k < length && offset + k < MEMORY_BYTES; k++) {
                memories[base + offset + k] = byteAt(slot, p + 2 + k);
            }
            p += 2 + length;
        }
    }

    // ---- Running: ints lie on the stack as longs of the same number

    private void push(long v) {
        if (valueCount < ALL_VALUES) {
            values[valueCount] = v;
            valueCount++;
        }
    }

    private long pop() {
        if (valueCount <= 0) {
            return 0;
        }
        valueCount--;
        return values[valueCount];
    }

    private boolean useFuel() {
        if (fuelUsed >= MOST_FUEL) {
            outcome = FUEL;
            return false;
        }
        fuelUsed++;
        return true;
    }

    private void pushArguments(int slot, int f, long a, long b, long c) {
        int type = typeOf(slot, f);
        int start = fact(slot, TYPE_AT + type);
        int n = byteAt(slot, start);
        for (int i = 0; i < n; i++) {
            int kind = byteAt(slot, start + 1 + i);
            long v = i == 0 ? a : i == 1 ? b : c;
            push(kind == INT ? (int) v : v);
        }
    }

    /* Makes a function of a module the active one; its arguments lie on the stack. */
    private void begin(int slot, int f) {
        if (activeCount >= MOST_ACTIVE) {
            return;
        }
        int type = typeOf(slot, f);
        int start = fact(slot, TYPE_AT + type);
        int n = byteAt(slot, start);
        int base = activeCount * MOST_VARIABLES;
        for (int i = MOST_VARIABLES - 1; i >= 0; i--) {
            variables[base + i] = i < n ? pop() : 0;
        }
        activeSlot[activeCount] = slot;
        activeGives[activeCount] = resultOf(slot, type);
        activeFrame[activeCount] = frameCount;
        activeCount++;
        goesOn = bodyOf(slot, f);
        openRun(goesOn);
    }

    private void openRun(int opener) {
        if (frameCount < ALL_FRAMES) {
            frameAt[frameCount] = opener;
            frameHeight[frameCount] = valueCount;
            frameCount++;
        }
    }

    private void step() {
        int active = last(activeCount, MOST_ACTIVE);
        int slot = activeSlot[active];
        int op = byteAt(slot, at);
        int operand = byteAt(slot, at + 1);
        goesOn = behind(slot, at);
        if (op <= RETURN) {
            runControl(slot, op, operand);
        } else if (op <= CALL_INDIRECT) {
            runCall(slot, op, operand);
        } else if (op <= CONST_LONG) {
            runSimple(slot, op, operand);
        } else if (op <= STORE64) {
            runAccess(slot, op, operand);
        } else if (op < WRAP) {
            runNumeric(op);
        } else {
            runConversion(op);
        }
        // A trap leaves the place at the instruction that raised it.
        if (outcome == RUNNING) {
            at = goesOn;
        }
    }

    private void runControl(int slot, int op, int operand) {
        switch (op) {
            case TRAP:
                outcome = UNREACHABLE;
                break;
            case BLOCK:
            case LOOP:
                openRun(at);
                break;
            case IF:
                runIf(slot);
                break;
            case ELSE:
                // The first part is through: what follows is the END.
                goesOn = partnerOf(slot, at);
                break;
            case END:
                runEnd();
                break;
            case BR:
                branch(slot, operand);
                break;
            case BR_IF:
                if (pop() != 0) {
                    branch(slot, operand);
                }
                break;
            case BR_TABLE:
                long i = pop() & LOW_32;
                int d = byteAt(slot, at + 2 + (i < operand ? (int) i : operand));
                branch(slot, d);
                break;
            case RETURN:
                leave();
                break;
            default:
                break;
        }
    }

    private void runIf(int slot) {
        boolean first = pop() != 0;
        openRun(at);
        if (!first) {
            int other = partnerOf(slot, at);
            goesOn = byteAt(slot, other) == ELSE ? other + 1 : other;
        }
    }

    private void runEnd() {
        int active = last(activeCount, MOST_ACTIVE);
        if (frameCount - 1 > activeFrame[active]) {
            frameCount--;
        } else {
            leave();
        }
    }

    private void branch(int slot, int d) {
        int frame = last(frameCount, ALL_FRAMES) - d;
        int active = last(activeCount, MOST_ACTIVE);
        if (frame <= activeFrame[active]) {
            leave();
            return;
        }
        int opener = frameAt[frame];
        if (byteAt(slot, opener) == LOOP) {
            if (useFuel()) {
                frameCount = frame + 1;
                valueCount = frameHeight[frame];
                goesOn = opener + 2;
            }
            return;
        }
        int wants = byteAt(slot, opener + 1);
        long kept = wants == NONE ? 0 : pop();
        frameCount = frame;
        valueCount = frameHeight[frame];
        if (wants != NONE) {
            push(kept);
        }
        int end = partnerOf(slot, opener);
        if (byteAt(slot, end) == ELSE) {
            end = partnerOf(slot, end);
        }
        goesOn = end + 1;
    }

    /* Ends the active function; its result, if it has one, is on top of the stack. */
    private void leave() {
        int active = last(activeCount, MOST_ACTIVE);
        boolean gives = activeGives[active] != NONE;
        long kept = gives ? pop() : 0;
        int bottom = activeFrame[active];
        valueCount = frameHeight[bottom];
        frameCount = bottom;
        activeCount = active;
        if (active == 0) {
            outcome = DONE;
            resultValue = kept;
            return;
        }
        if (gives) {
            push(kept);
        }
        goesOn = activeResume[active - 1];
    }

    private void runCall(int slot, int op, int operand) {
        int f = op == CALL ? operand : pickEntry(slot, operand);
        if (f < 0) {
            return;
        }
        int home = slot;
        int what = foreign(home, f);
        // An import of slot 1 may be an import of slot 0 in turn, and that one is the host's.
        if (what >= 0 && what <= LAST_FOREIGN) {
            home = 0;
            f = what;
            what = foreign(home, f);
        }
        if (what >= 0) {
            runHost(what);
        } else if (activeCount >= MOST_ACTIVE) {
            outcome = DEPTH;
        } else if (useFuel()) {
            int active = last(activeCount, MOST_ACTIVE);
            activeResume[active] = goesOn;
            begin(home, f);
        }
    }

    /* What an import names; -1 for a function of the module itself. */
    private int foreign(int m, int f) {
        if (f >= fact(m, IMPORTS)) {
            return -1;
        }
        int p = fact(m, FUNCTION_AT + f);
        return byteAt(m, p + 1);
    }

    /* The function of the table entry on top of the stack; -1 after a trap. */
    private int pickEntry(int slot, int type) {
        long i = pop() & LOW_32;
        if (i >= fact(slot, ENTRIES)) {
            outcome = TABLE;
            return -1;
        }
        int first = fact(slot, ENTRIES_AT);
        int f = byteAt(slot, first + (int) i);
        if (f == NO_FUNCTION) {
            outcome = EMPTY;
            return -1;
        }
        int itsType = typeOf(slot, f);
        if (!sameType(slot, itsType, slot, type)) {
            outcome = SIGNATURE;
            return -1;
        }
        return f;
    }

    private void runHost(int what) {
        if (what == PRINT) {
            prints[printCount & LAST_PRINT] = (int) pop();
            printCount++;
        } else if (waitingCount == 0) {
            push(-1);
        } else {
            push(waiting[firstWaiting]);
            firstWaiting = (firstWaiting + 1) % MOST_WAITING;
            waitingCount--;
        }
    }

    private void runSimple(int slot, int op, int operand) {
        // Validation lets no other numbers through; the remainders only keep the indices in sight.
        int variable = last(activeCount, MOST_ACTIVE) * MOST_VARIABLES + operand % MOST_VARIABLES;
        int globalAt = slot * MOST_GLOBALS + operand % MOST_GLOBALS;
        switch (op) {
            case DROP:
                pop();
                break;
            case SELECT:
                runSelect();
                break;
            case GET:
                push(variables[variable]);
                break;
            case SET:
                variables[variable] = pop();
                break;
            case TEE:
                variables[variable] = pop();
                push(variables[variable]);
                break;
            case GGET:
                push(globals[globalAt]);
                break;
            case GSET:
                globals[globalAt] = pop();
                break;
            default:
                long v = constAt(slot, at + 1, op == CONST_INT ? INT : LONG);
                push(v);
                break;
        }
    }

    private void runSelect() {
        boolean first = pop() != 0;
        long two = pop();
        long one = pop();
        push(first ? one : two);
    }

    private void runAccess(int slot, int op, int offset) {
        boolean store = op >= STORE8;
        long v = store ? pop() : 0;
        long address = (pop() & LOW_32) + offset;
        int length = op == LOAD8 || op == STORE8 ? 1 : op == LOAD32 || op == STORE32 ? 4 : 8;
        if (address + length > MEMORY_BYTES) {
            outcome = BOUNDS;
            return;
        }
        int start = slot * MEMORY_BYTES + (int) address;
        if (store) {
            for (int i = 0; i < length; i++) {
                memories[start + i] = (int) (v >>> 8 * i) & 255;
            }
            return;
        }
        for (int i = 0; i < length; i++) {
            v |= (long) memories[start + i] << 8 * i;
        }
        push(op == LOAD32 ? (int) v : v);
    }

    private void runConversion(int op) {
        long v = pop();
        if (op == WRAP) {
            v = (int) v;
        } else if (op == EXTENDU) {
            v = v & LOW_32;
        }
        push(v);
    }

    private void runNumeric(int op) {
        int kind = op < LONG_EQZ ? INT : LONG;
        int plain = kind == INT ? op : op - LONGS_BEHIND_INTS;
        long y = pop();
        if (plain == EQZ) {
            push(y == 0 ? 1 : 0);
            return;
        }
        long x = pop();
        if (plain < ADD) {
            boolean holds = compare(plain, x, y);
            push(holds ? 1 : 0);
        } else if (plain >= DIV && plain <= REM && y == 0) {
            outcome = DIVIDE;
        } else if (plain == DIV && y == -1 && x == (kind == INT ? LEAST_INT : LEAST_LONG)) {
            outcome = OVERFLOW;
        } else if (plain >= SHL) {
            long v = shift(plain, kind, x, y);
            push(v);
        } else {
            long v = compute(plain, kind, x, y);
            push(kind == INT ? (int) v : v);
        }
    }

    private static boolean compare(int plain, long x, long y) {
        switch (plain) {
            case EQ:
                return x == y;
            case NE:
                return x != y;
            case LT:
                return x < y;
            case LTU:
                // An int with its sign carried on keeps its unsigned order too.
                return belowUnsigned(x, y);
            default:
                return x <= y;
        }
    }

    private static boolean belowUnsigned(long x, long y) {
        return (x ^ LEAST_LONG) < (y ^ LEAST_LONG);
    }

    private static long compute(int plain, int kind, long x, long y) {
        switch (plain) {
            case ADD:
                return x + y;
            case SUB:
                return x - y;
            case MUL:
                return x * y;
            case DIV:
                return y == 0 ? 0 : x / y;
            case DIVU:
                return kind == INT ? divideUnsigned(x & LOW_32, y & LOW_32) : divideUnsigned(x, y);
            case REM:
                return y == 0 ? 0 : x % y;
            case AND:
                return x & y;
            case OR:
                return x | y;
            default:
                return x ^ y;
        }
    }

    private static long divideUnsigned(long x, long y) {
        if (y == 0) {
            return 0;
        }
        if (y < 0) {
            return belowUnsigned(x, y) ? 0 : 1;
        }
        if (x >= 0) {
            return x / y;
        }
        // Half of x is not negative; the quotient from it is at most one too small.
        long quotient = (x >>> 1) / y << 1;
        long rest = x - quotient * y;
        return belowUnsigned(rest, y) ? quotient : quotient + 1;
    }

    private static long shift(int plain, int kind, long x, long y) {
        int by = (int) y & (kind == INT ? 31 : 63);
        long v;
        if (plain == SHL) {
            v = x << by;
        } else if (plain == SHR) {
            v = x >> by;
        } else {
            v = (kind == INT ? x & LOW_32 : x) >>> by;
        }
        return kind == INT ? (int) v : v;
    }
}
