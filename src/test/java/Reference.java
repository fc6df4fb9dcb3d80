import java.util.ArrayDeque;
import java.util.ArrayList;
import java.util.List;

/**
 * The document once more, in another way: a module is a tree, a trap is an exception, a call is a
 * call, and ints and longs are different objects on the stack. It is here to be compared with.
 */
final class Reference {
    record Type(List<Integer> parameters, int result) {
    }

    record Import(int type, int what, int place) {
    }

    static final class Node {
        int op, place, operand, elsePlace = -1, endPlace = -1;
        List<Integer> labels = new ArrayList<>();
        long constant;
        List<Node> first = new ArrayList<>(), second = new ArrayList<>();
    }

    static final class Function {
        int type, place;
        List<Integer> locals = new ArrayList<>();
        Node body;
    }

    static final class Module {
        int slot;
        List<Type> types = new ArrayList<>();
        List<Import> imports = new ArrayList<>();
        List<Function> functions = new ArrayList<>();
        List<Integer> globalKinds = new ArrayList<>();
        List<Boolean> globalSettable = new ArrayList<>();
        List<Long> globals = new ArrayList<>();
        List<int[]> table = new ArrayList<>();
        List<int[]> data = new ArrayList<>();
        int[] memory;

        int size() {
            return imports.size() + functions.size();
        }

        int typeNumber(int f) {
            return f < imports.size() ? imports.get(f).type : functions.get(f - imports.size()).type;
        }

        Type typeOf(int f) {
            return f >= 0 && f < size() && typeNumber(f) < types.size() ? types.get(typeNumber(f)) : null;
        }
    }

    @SuppressWarnings("serial")
    static final class Refused extends RuntimeException {
        final int outcome, place;

        Refused(int outcome, int place) {
            super(null, null, false, false);
            this.outcome = outcome;
            this.place = place;
        }
    }

    @SuppressWarnings("serial")
    static final class Branch extends RuntimeException {
        final int label;

        Branch(int label) {
            super(null, null, false, false);
            this.label = label;
        }
    }

    final List<Integer> bytes = new ArrayList<>();
    final Module[] slots = new Module[2];
    final ArrayDeque<Integer> waiting = new ArrayDeque<>();
    final List<Integer> prints = new ArrayList<>();
    int place = -1, trappedAt = -1, used = 0;
    long result = 0;

    // ---- Reading

    private int cursor;

    private Refused malformed(int p) {
        return new Refused(WasmSandbox.MALFORMED, p);
    }

    private int next(int least, int most) {
        if (cursor >= bytes.size() || bytes.get(cursor) < least || bytes.get(cursor) > most) {
            throw malformed(cursor);
        }
        return bytes.get(cursor++);
    }

    private List<Integer> kinds(int most) {
        List<Integer> all = new ArrayList<>();
        for (int n = next(0, most); n > 0; n--) {
            all.add(next(1, 2));
        }
        return all;
    }

    private long constant(int kind) {
        java.math.BigInteger sum = java.math.BigInteger.ZERO;
        int most = kind == 1 ? 5 : 10;
        for (int i = 0; i < most; i++) {
            int v = next(0, i == most - 1 ? 127 : 255);
            sum = sum.add(java.math.BigInteger.valueOf(v & 127).shiftLeft(7 * i));
            if (v < 128) {
                if (v >= 64) {
                    sum = sum.subtract(java.math.BigInteger.ONE.shiftLeft(7 * (i + 1)));
                }
                break;
            }
        }
        return kind == 1 ? sum.intValue() : sum.longValue();
    }

    private Node block(int op, int p, int result) {
        Node node = new Node();
        node.op = op;
        node.place = p;
        node.operand = result;
        List<Node> part = node.first;
        while (true) {
            int start = cursor;
            int inner = next(0, 66);
            if (inner == Kit.END) {
                node.endPlace = start;
                return node;
            }
            if (inner == Kit.ELSE) {
                if (op != Kit.IF || node.elsePlace >= 0) {
                    throw malformed(start);
                }
                node.elsePlace = start;
                part = node.second;
                continue;
            }
            part.add(instruction(inner, start));
        }
    }

    private Node instruction(int op, int p) {
        if (op == Kit.BLOCK || op == Kit.LOOP || op == Kit.IF) {
            int t = next(0, 2);
            return block(op, p, t);
        }
        Node node = new Node();
        node.op = op;
        node.place = p;
        if (op == Kit.BR_TABLE) {
            for (int n = next(0, 4); n >= 0; n--) {
                node.labels.add(next(0, 255));
            }
        } else if (op == Kit.INT || op == Kit.LONG) {
            node.constant = constant(op == Kit.INT ? 1 : 2);
        } else if (List.of(7, 8, 11, 12, 15, 16, 17, 18, 19, 22, 23, 24, 25, 26, 27).contains(op)) {
            node.operand = next(0, 255);
        }
        return node;
    }

    private Module read() {
        cursor = 0;
        Module m = new Module();
        for (int n = next(0, 4); n > 0; n--) {
            List<Integer> parameters = kinds(3);
            List<Integer> results = kinds(1);
            m.types.add(new Type(parameters, results.isEmpty() ? 0 : results.get(0)));
        }
        for (int n = next(0, 3); n > 0; n--) {
            int p = cursor;
            int type = next(0, 255);
            m.imports.add(new Import(type, next(0, 255), p));
        }
        for (int n = next(0, 4); n > 0; n--) {
            Function f = new Function();
            f.place = cursor;
            f.type = next(0, 255);
            f.locals = kinds(3);
            f.body = block(-1, -1, 0);
            m.functions.add(f);
        }
        for (int n = next(0, 3); n > 0; n--) {
            int kind = next(1, 2);
            m.globalKinds.add(kind);
            m.globalSettable.add(next(0, 1) == 1);
            m.globals.add(constant(kind));
        }
        for (int n = next(0, 5); n > 0; n--) {
            int p = cursor;
            m.table.add(new int[] {p, next(0, 255)});
        }
        if (next(0, 1) == 1) {
            m.memory = new int[48];
            for (int n = next(0, 2); n > 0; n--) {
                int p = cursor;
                int offset = next(0, 255);
                int[] item = new int[2 + next(0, 8)];
                item[0] = p;
                item[1] = offset;
                for (int i = 2; i < item.length; i++) {
                    item[i] = next(0, 255);
                }
                m.data.add(item);
            }
        }
        if (cursor < bytes.size()) {
            throw malformed(cursor);
        }
        return m;
    }

    // ---- Validation

    private static final int FITS_ALL = 9;

    private static final class Frame {
        int height, result, wants;
        boolean dead;
    }

    private static final class Checker {
        final Module m;
        final Type type;
        final List<Integer> variables = new ArrayList<>();
        final List<Integer> stack = new ArrayList<>();
        final List<Frame> frames = new ArrayList<>();
        int p;

        Checker(Module m, Function f) {
            this.m = m;
            type = m.types.get(f.type);
            variables.addAll(type.parameters);
            variables.addAll(f.locals);
            open(type.result, type.result);
            all(f.body.first);
            close(f.body.endPlace);
        }

        void must(boolean holds) {
            if (!holds) {
                throw new Refused(WasmSandbox.INVALID, p);
            }
        }

        Frame top() {
            return frames.get(frames.size() - 1);
        }

        void open(int result, int wants) {
            must(frames.size() < 8);
            Frame frame = new Frame();
            frame.height = stack.size();
            frame.result = result;
            frame.wants = wants;
            frames.add(frame);
        }

        int takeAny() {
            if (stack.size() > top().height) {
                return stack.remove(stack.size() - 1);
            }
            must(top().dead);
            return FITS_ALL;
        }

        void take(int... wanted) {
            for (int i = wanted.length - 1; i >= 0; i--) {
                if (wanted[i] != 0) {
                    int got = takeAny();
                    must(got == wanted[i] || got == FITS_ALL);
                }
            }
        }

        void give(int kind) {
            if (kind != 0) {
                stack.add(kind);
                must(stack.size() <= 20);
            }
        }

        void dead() {
            while (stack.size() > top().height) {
                stack.remove(stack.size() - 1);
            }
            top().dead = true;
        }

        void part(int at) {
            p = at;
            take(top().result);
            must(stack.size() == top().height);
            top().dead = false;
        }

        void close(int at) {
            part(at);
            int kind = top().result;
            frames.remove(frames.size() - 1);
            give(kind);
        }

        int wants(int label) {
            must(label < frames.size());
            return frames.get(frames.size() - 1 - label).wants;
        }

        void all(List<Node> nodes) {
            for (Node node : nodes) {
                p = node.place;
                one(node);
            }
        }

        void one(Node n) {
            int op = n.op;
            if (op == Kit.TRAP) {
                dead();
            } else if (op == Kit.BLOCK || op == Kit.LOOP || op == Kit.IF) {
                take(op == Kit.IF ? 1 : 0);
                open(n.operand, op == Kit.LOOP ? 0 : n.operand);
                all(n.first);
                if (n.elsePlace >= 0) {
                    part(n.elsePlace);
                    all(n.second);
                }
                p = n.endPlace;
                must(op != Kit.IF || n.operand == 0 || n.elsePlace >= 0);
                close(n.endPlace);
            } else if (op == Kit.BR) {
                take(wants(n.operand));
                dead();
            } else if (op == Kit.BR_IF) {
                int kind = wants(n.operand);
                take(kind, 1);
                give(kind);
            } else if (op == Kit.BR_TABLE) {
                int kind = wants(n.labels.get(n.labels.size() - 1));
                for (int label : n.labels) {
                    must(wants(label) == kind);
                }
                take(kind, 1);
                dead();
            } else if (op == Kit.RETURN) {
                take(type.result);
                dead();
            } else if (op == Kit.CALL || op == Kit.CALL_INDIRECT) {
                call(n);
            } else if (op == Kit.DROP) {
                takeAny();
            } else if (op == Kit.SELECT) {
                take(1);
                int second = takeAny();
                int first = takeAny();
                must(first == second || first == FITS_ALL || second == FITS_ALL);
                give(first == FITS_ALL ? second : first);
            } else if (op >= Kit.GET && op <= Kit.TEE) {
                must(n.operand < variables.size());
                int kind = variables.get(n.operand);
                take(op == Kit.GET ? 0 : kind);
                give(op == Kit.SET ? 0 : kind);
            } else if (op == Kit.GGET || op == Kit.GSET) {
                must(n.operand < m.globals.size() && (op == Kit.GGET || m.globalSettable.get(n.operand)));
                int kind = m.globalKinds.get(n.operand);
                take(op == Kit.GSET ? kind : 0);
                give(op == Kit.GGET ? kind : 0);
            } else {
                plain(op);
            }
        }

        void call(Node n) {
            Type called = n.op == Kit.CALL ? m.typeOf(n.operand) : n.operand < m.types.size() ? m.types.get(n.operand) : null;
            must(called != null);
            take(n.op == Kit.CALL ? 0 : 1);
            take(called.parameters.stream().mapToInt(Integer::intValue).toArray());
            give(called.result);
        }

        void plain(int op) {
            String signature = switch (op) {
                case 1 -> ">";
                case 20 -> ">1";
                case 21 -> ">2";
                case 22, 23 -> "1>1";
                case 24 -> "1>2";
                case 25, 26 -> "11>";
                case 27 -> "12>";
                case 28 -> "1>1";
                case 29, 30, 31, 32, 33, 34, 35, 36, 37, 38, 39, 40, 41, 42, 43, 44, 45 -> "11>1";
                case 46 -> "2>1";
                case 47, 48, 49, 50, 51 -> "22>1";
                case 52, 53, 54, 55, 56, 57, 58, 59, 60, 61, 62, 63 -> "22>2";
                case 64 -> "2>1";
                case 65, 66 -> "1>2";
                default -> throw new IllegalStateException("op " + op);
            };
            must(op < 22 || op > 27 || m.memory != null);
            int arrow = signature.indexOf('>');
            take(signature.substring(0, arrow).chars().map(ch -> ch - '0').toArray());
            give(arrow + 1 < signature.length() ? signature.charAt(arrow + 1) - '0' : 0);
        }
    }

    private void validate(Module m) {
        List<Refused> faults = new ArrayList<>();
        for (Import i : m.imports) {
            if (i.type >= m.types.size()) {
                faults.add(new Refused(WasmSandbox.INVALID, i.place));
            }
        }
        for (Function f : m.functions) {
            if (f.type >= m.types.size()) {
                faults.add(new Refused(WasmSandbox.INVALID, f.place));
                continue;
            }
            try {
                new Checker(m, f);
            } catch (Refused fault) {
                faults.add(fault);
            }
        }
        for (int[] entry : m.table) {
            if (entry[1] != 255 && entry[1] >= m.size()) {
                faults.add(new Refused(WasmSandbox.INVALID, entry[0]));
            }
        }
        for (int[] item : m.data) {
            if (item[1] + item.length - 2 > 48) {
                faults.add(new Refused(WasmSandbox.INVALID, item[0]));
            }
        }
        Refused least = null;
        for (Refused fault : faults) {
            least = least == null || fault.place < least.place ? fault : least;
        }
        if (least != null) {
            throw least;
        }
    }

    private void link(Module m) {
        for (Import i : m.imports) {
            Type have = m.types.get(i.type);
            Type want = null;
            if (i.what == 16) {
                want = new Type(List.of(1), 0);
            } else if (i.what == 17) {
                want = new Type(List.of(), 1);
            } else if (m.slot == 1 && i.what <= 6 && slots[0] != null) {
                want = slots[0].typeOf(i.what);
            }
            if (!have.equals(want)) {
                throw new Refused(WasmSandbox.LINK, i.place + 1);
            }
        }
    }

    int load(int slot) {
        if (slot < 0 || slot > 1) {
            return WasmSandbox.BAD;
        }
        try {
            Module m = read();
            m.slot = slot;
            validate(m);
            link(m);
            for (int[] item : m.data) {
                System.arraycopy(item, 2, m.memory, item[1], item.length - 2);
            }
            slots[slot] = m;
            if (slot == 0) {
                slots[1] = null;
            }
            place = -1;
            return WasmSandbox.OK;
        } catch (Refused refused) {
            place = refused.place;
            return refused.outcome;
        }
    }

    // ---- Running

    private int active;

    private final class Call {
        final Module m;
        final ArrayDeque<Object> stack = new ArrayDeque<>();
        final Object[] variables;

        Call(Module m, Function f, List<Object> arguments) {
            this.m = m;
            variables = new Object[arguments.size() + f.locals.size()];
            for (int i = 0; i < variables.length; i++) {
                variables[i] = i < arguments.size() ? arguments.get(i) : zero(f.locals.get(i - arguments.size()));
            }
        }

        Object zero(int kind) {
            return kind == 1 ? (Object) 0 : (Object) 0L;
        }

        int popInt() {
            return (Integer) stack.pop();
        }

        long popLong() {
            return (Long) stack.pop();
        }

        RuntimeException trap(Node n, int why) {
            return new Refused(why, 1000 * m.slot + n.place);
        }

        void burn(Node n) {
            if (used == 120) {
                throw trap(n, WasmSandbox.FUEL);
            }
            used++;
        }

        /* A branch is thrown with the number of blocks that it still has to pass. */
        void all(List<Node> nodes, List<Node> around) {
            for (Node node : nodes) {
                one(node, around);
            }
        }

        void jump(Node n, int label, List<Node> around) {
            if (label < around.size() && around.get(around.size() - 1 - label).op == Kit.LOOP) {
                burn(n);
            }
            throw new Branch(label);
        }

        void structured(Node n, List<Node> around) {
            List<Node> part = n.op != Kit.IF || popInt() != 0 ? n.first : n.second;
            int height = stack.size();
            List<Node> inside = new ArrayList<>(around);
            inside.add(n);
            while (true) {
                try {
                    all(part, inside);
                    return;
                } catch (Branch branch) {
                    if (branch.label > 0) {
                        throw new Branch(branch.label - 1);
                    }
                    Object kept = n.op != Kit.LOOP && n.operand != 0 ? stack.pop() : null;
                    while (stack.size() > height) {
                        stack.pop();
                    }
                    if (kept != null) {
                        stack.push(kept);
                    }
                    if (n.op != Kit.LOOP) {
                        return;
                    }
                }
            }
        }

        void one(Node n, List<Node> around) {
            switch (n.op) {
                case 0 -> throw trap(n, WasmSandbox.UNREACHABLE);
                case 1 -> {
                }
                case 2, 3, 4 -> structured(n, around);
                case 7 -> jump(n, n.operand, around);
                case 8 -> {
                    if (popInt() != 0) {
                        jump(n, n.operand, around);
                    }
                }
                case 9 -> {
                    int i = popInt();
                    int last = n.labels.size() - 1;
                    jump(n, n.labels.get(Integer.compareUnsigned(i, last) < 0 ? i : last), around);
                }
                case 10 -> throw new Branch(around.size());
                case 11 -> call(n, n.operand);
                case 12 -> indirect(n);
                case 13 -> stack.pop();
                case 14 -> {
                    int i = popInt();
                    Object second = stack.pop();
                    Object first = stack.pop();
                    stack.push(i != 0 ? first : second);
                }
                case 15 -> stack.push(variables[n.operand]);
                case 16 -> variables[n.operand] = stack.pop();
                case 17 -> variables[n.operand] = stack.peek();
                case 18 -> stack.push(boxed(m.globalKinds.get(n.operand), m.globals.get(n.operand)));
                case 19 -> m.globals.set(n.operand, ((Number) stack.pop()).longValue());
                case 20 -> stack.push((int) n.constant);
                case 21 -> stack.push(n.constant);
                case 22, 23, 24 -> read(n);
                case 25, 26, 27 -> write(n);
                case 28 -> stack.push(popInt() == 0 ? 1 : 0);
                case 46 -> stack.push(popLong() == 0 ? 1 : 0);
                case 64 -> stack.push((int) popLong());
                case 65 -> stack.push((long) popInt());
                case 66 -> stack.push(Integer.toUnsignedLong(popInt()));
                default -> {
                    if (n.op < 46) {
                        ints(n);
                    } else {
                        longs(n);
                    }
                }
            }
        }

        void ints(Node n) {
            int y = popInt();
            int x = popInt();
            if (n.op >= 37 && n.op <= 39 && y == 0) {
                throw trap(n, WasmSandbox.DIVIDE);
            }
            if (n.op == 37 && x == Integer.MIN_VALUE && y == -1) {
                throw trap(n, WasmSandbox.OVERFLOW);
            }
            stack.push(switch (n.op) {
                case 29 -> x == y ? 1 : 0;
                case 30 -> x != y ? 1 : 0;
                case 31 -> x < y ? 1 : 0;
                case 32 -> Integer.compareUnsigned(x, y) < 0 ? 1 : 0;
                case 33 -> x <= y ? 1 : 0;
                case 34 -> x + y;
                case 35 -> x - y;
                case 36 -> x * y;
                case 37 -> x / y;
                case 38 -> Integer.divideUnsigned(x, y);
                case 39 -> x % y;
                case 40 -> x & y;
                case 41 -> x | y;
                case 42 -> x ^ y;
                case 43 -> x << y;
                case 44 -> x >> y;
                case 45 -> x >>> y;
                default -> throw new IllegalStateException();
            });
        }

        void longs(Node n) {
            long y = popLong();
            long x = popLong();
            if (n.op >= 55 && n.op <= 57 && y == 0) {
                throw trap(n, WasmSandbox.DIVIDE);
            }
            if (n.op == 55 && x == Long.MIN_VALUE && y == -1) {
                throw trap(n, WasmSandbox.OVERFLOW);
            }
            if (n.op < 52) {
                boolean holds = switch (n.op) {
                    case 47 -> x == y;
                    case 48 -> x != y;
                    case 49 -> x < y;
                    case 50 -> Long.compareUnsigned(x, y) < 0;
                    default -> x <= y;
                };
                stack.push(holds ? 1 : 0);
                return;
            }
            stack.push(switch (n.op) {
                case 52 -> x + y;
                case 53 -> x - y;
                case 54 -> x * y;
                case 55 -> x / y;
                case 56 -> Long.divideUnsigned(x, y);
                case 57 -> x % y;
                case 58 -> x & y;
                case 59 -> x | y;
                case 60 -> x ^ y;
                case 61 -> x << y;
                case 62 -> x >> y;
                case 63 -> x >>> y;
                default -> throw new IllegalStateException();
            });
        }

        int start(Node n, int length) {
            long address = Integer.toUnsignedLong(popInt()) + n.operand;
            if (address + length > 48) {
                throw trap(n, WasmSandbox.BOUNDS);
            }
            return (int) address;
        }

        void read(Node n) {
            int length = n.op == 22 ? 1 : n.op == 23 ? 4 : 8;
            int start = start(n, length);
            long v = 0;
            for (int i = length - 1; i >= 0; i--) {
                v = v * 256 + m.memory[start + i];
            }
            stack.push(boxed(n.op == 24 ? 2 : 1, v));
        }

        void write(Node n) {
            long v = ((Number) stack.pop()).longValue();
            int length = n.op == 25 ? 1 : n.op == 26 ? 4 : 8;
            int start = start(n, length);
            for (int i = 0; i < length; i++) {
                m.memory[start + i] = (int) (v & 255);
                v >>= 8;
            }
        }

        void indirect(Node n) {
            int i = popInt();
            if (i < 0 || i >= m.table.size()) {
                throw trap(n, WasmSandbox.TABLE);
            }
            int f = m.table.get(i)[1];
            if (f == 255) {
                throw trap(n, WasmSandbox.EMPTY);
            }
            if (!m.typeOf(f).equals(m.types.get(n.operand))) {
                throw trap(n, WasmSandbox.SIGNATURE);
            }
            call(n, f);
        }

        void call(Node n, int f) {
            Module home = m;
            while (f < home.imports.size()) {
                int what = home.imports.get(f).what;
                if (what == 16) {
                    prints.add(popInt());
                    return;
                }
                if (what == 17) {
                    stack.push(waiting.isEmpty() ? -1 : waiting.poll());
                    return;
                }
                home = slots[0];
                f = what;
            }
            if (active == 10) {
                throw trap(n, WasmSandbox.DEPTH);
            }
            burn(n);
            List<Object> arguments = new ArrayList<>();
            for (int i = 0; i < home.typeOf(f).parameters.size(); i++) {
                arguments.add(0, stack.pop());
            }
            Object given = runFunction(home, f, arguments);
            if (given != null) {
                stack.push(given);
            }
        }
    }

    private static Object boxed(int kind, long v) {
        return kind == 1 ? (Object) (int) v : (Object) v;
    }

    private Object runFunction(Module m, int f, List<Object> arguments) {
        active++;
        Function function = m.functions.get(f - m.imports.size());
        Call call = new Call(m, function, arguments);
        try {
            call.all(function.body.first, new ArrayList<>());
        } catch (Branch branch) {
            if (branch.label != 0) {
                throw new IllegalStateException("a branch out of a function");
            }
        }
        active--;
        return m.typeOf(f).result == 0 ? null : call.stack.pop();
    }

    int invoke(int slot, int f, long... given) {
        if (slot < 0 || slot > 1 || slots[slot] == null || f < slots[slot].imports.size() || f >= slots[slot].size()) {
            return WasmSandbox.BAD;
        }
        result = 0;
        trappedAt = -1;
        used = 0;
        active = 0;
        List<Object> arguments = new ArrayList<>();
        for (int kind : slots[slot].typeOf(f).parameters) {
            arguments.add(boxed(kind, given[arguments.size()]));
        }
        try {
            Object value = runFunction(slots[slot], f, arguments);
            result = value == null ? 0 : ((Number) value).longValue();
            return WasmSandbox.DONE;
        } catch (Refused trap) {
            trappedAt = trap.place;
            return trap.outcome;
        }
    }
}
