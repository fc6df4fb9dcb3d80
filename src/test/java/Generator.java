import java.util.ArrayList;
import java.util.List;
import java.util.Random;

/** Modules that are mostly valid, from a seeded source; the caller may spoil some of their bytes. */
final class Generator {
    private final Random random;
    private final List<Integer> out = new ArrayList<>();
    private final List<int[]> types = new ArrayList<>();
    private final List<Integer> functionTypes = new ArrayList<>();
    private final List<int[]> globals = new ArrayList<>();
    private int[] variables;
    private int bodyResult;
    private boolean memory;
    private int budget;
    // Innermost last; what a branch to each label wants.
    private final List<Integer> labels = new ArrayList<>();

    // Loose bodies are well nested, but what their instructions take may not be there.
    private final boolean loose;

    Generator(Random random, boolean loose) {
        this.random = random;
        this.loose = loose;
    }

    private int below(int n) {
        return random.nextInt(n);
    }

    private boolean oneIn(int n) {
        return random.nextInt(n) == 0;
    }

    private void emit(int... bytes) {
        for (int b : bytes) {
            out.add(b);
        }
    }

    private int kind() {
        return oneIn(3) ? 2 : 1;
    }

    /** A type as p, kinds.., result. */
    private int[] type() {
        int[] t = new int[2 + below(oneIn(3) ? 4 : 3)];
        t[0] = t.length - 2;
        for (int i = 1; i < t.length - 1; i++) {
            t[i] = kind();
        }
        t[t.length - 1] = oneIn(3) ? 0 : kind();
        return t;
    }

    private void emitType(int[] t) {
        for (int i = 0; i < t.length - 1; i++) {
            emit(t[i]);
        }
        int result = t[t.length - 1];
        emit(result == 0 ? 0 : 1);
        if (result != 0) {
            emit(result);
        }
    }

    /** In its shortest form, or at times in a longer one. */
    private void emitConst(int kind, long v) {
        int most = kind == 1 ? 5 : 10;
        int longer = oneIn(8) ? below(most) : 0;
        for (int i = 0; i < most; i++) {
            int low = (int) (v & 127);
            v >>= 7;
            boolean complete = v == 0 && low < 64 || v == -1 && low >= 64;
            if (complete && i >= longer || i == most - 1) {
                emit(low);
                return;
            }
            emit(low | 128);
        }
    }

    private long number(int kind) {
        return switch (below(12)) {
            case 0 -> kind == 1 ? Integer.MIN_VALUE : Long.MIN_VALUE;
            case 1 -> -1;
            case 2 -> kind == 1 ? random.nextInt() : random.nextLong();
            case 3 -> below(300) - 150;
            case 4 -> 40 + below(10);
            default -> below(6);
        };
    }

    /** The imports are pairs of a type (as its bytes) and what. */
    int[] module(List<int[]> importTypes, List<Integer> whats) {
        for (int[] t : importTypes) {
            types.add(t);
            functionTypes.add(types.size() - 1);
        }
        while (types.size() < 1 || types.size() < 4 && oneIn(2)) {
            types.add(type());
        }
        int functions = 1 + below(3);
        for (int i = 0; i < functions; i++) {
            functionTypes.add(below(types.size()));
        }
        for (int n = below(4); n > 0; n--) {
            globals.add(new int[] {kind(), oneIn(4) ? 0 : 1});
        }
        memory = !oneIn(3);
        emit(types.size());
        types.forEach(this::emitType);
        emit(importTypes.size());
        for (int i = 0; i < whats.size(); i++) {
            emit(functionTypes.get(i), whats.get(i));
        }
        emit(functions);
        for (int i = 0; i < functions; i++) {
            function(functionTypes.get(whats.size() + i), 4 + below((loose ? 60 : 24) / functions));
        }
        tail();
        return out.stream().mapToInt(Integer::intValue).toArray();
    }

    private void tail() {
        emit(globals.size());
        for (int[] g : globals) {
            emit(g[0], g[1]);
            emitConst(g[0], number(g[0]));
        }
        int entries = below(6);
        emit(entries);
        for (int i = 0; i < entries; i++) {
            emit(oneIn(5) ? 255 : below(functionTypes.size()));
        }
        emit(memory ? 1 : 0);
        if (memory) {
            int n = below(3);
            emit(n);
            for (int i = 0; i < n; i++) {
                int length = below(4);
                emit(oneIn(4) ? 48 - length : below(20), length);
                for (int k = 0; k < length; k++) {
                    emit(below(256));
                }
            }
        }
    }

    private void function(int type, int instructions) {
        int[] t = types.get(type);
        int locals = below(4);
        emit(type, locals);
        variables = new int[t[0] + locals];
        for (int i = 0; i < variables.length; i++) {
            variables[i] = i < t[0] ? t[1 + i] : kind();
            if (i >= t[0]) {
                emit(variables[i]);
            }
        }
        bodyResult = t[t.length - 1];
        budget = instructions;
        labels.clear();
        if (loose) {
            looseBody();
        } else {
            part(bodyResult, bodyResult);
        }
    }

    private void looseBody() {
        List<Boolean> open = new ArrayList<>();
        open.add(false);
        if (oneIn(2)) {
            emit(Kit.TRAP);
        }
        int one = oneIn(3) ? below(67) : Kit.INT;
        while (!open.isEmpty()) {
            budget--;
            int op = oneIn(8) ? Kit.TRAP : oneIn(4) ? one : oneIn(3) ? below(28) : below(67);
            if (op == Kit.ELSE || op == Kit.END || budget < 0) {
                boolean mayElse = open.remove(open.size() - 1);
                boolean takesElse = mayElse && budget > 0 && !oneIn(4);
                emit(takesElse ? Kit.ELSE : Kit.END);
                if (takesElse) {
                    open.add(false);
                }
            } else {
                looseInstruction(op, open);
            }
        }
    }

    private void looseInstruction(int op, List<Boolean> open) {
        emit(op);
        if (op == Kit.BLOCK || op == Kit.LOOP || op == Kit.IF) {
            emit(below(3));
            open.add(op == Kit.IF);
        } else if (op == Kit.BR_TABLE) {
            int n = below(5);
            emit(n);
            for (int i = 0; i <= n; i++) {
                emit(below(open.size()));
            }
        } else if (op == Kit.INT || op == Kit.LONG) {
            emitConst(op == Kit.INT ? 1 : 2, below(5));
        } else if (op == Kit.BR || op == Kit.BR_IF) {
            emit(below(open.size() + (oneIn(20) ? 1 : 0)));
        } else if (op == Kit.CALL) {
            emit(below(functionTypes.size()));
        } else if (op == Kit.CALL_INDIRECT) {
            emit(below(types.size()));
        } else if (op >= Kit.GET && op <= Kit.TEE) {
            emit(variables.length == 0 ? 0 : below(variables.length));
        } else if (op == Kit.GGET || op == Kit.GSET) {
            emit(globals.isEmpty() ? 0 : below(globals.size()));
        } else if (op >= Kit.LOAD8 && op <= Kit.STORE64) {
            emit(below(50));
        }
    }

    /** The instructions of one frame up to its END or ELSE, which is emitted as well. */
    private void part(int result, int wants) {
        labels.add(wants);
        List<Integer> stack = new ArrayList<>();
        boolean dead = inside(stack);
        finish(stack, result, dead);
        labels.remove(labels.size() - 1);
        emit(Kit.END);
    }

    private boolean inside(List<Integer> stack) {
        boolean dead = false;
        for (int n = 1 + below(7); n > 0 && budget > 0; n--) {
            budget--;
            dead |= instruction(stack);
            if (dead && !oneIn(6)) {
                return true;
            }
        }
        return dead;
    }

    private void finish(List<Integer> stack, int result, boolean dead) {
        if (dead && stack.isEmpty() && !oneIn(4)) {
            return;
        }
        boolean keep = result != 0 && !stack.isEmpty() && stack.get(stack.size() - 1) == result;
        while (stack.size() > (keep ? 1 : 0)) {
            if (keep && stack.size() > 1 && oneIn(2) && labels.size() > 1) {
                break;
            }
            if (keep) {
                // The topmost is the one to keep: get rid of the others by a branch or start anew.
                keep = false;
            }
            emit(Kit.DROP);
            stack.remove(stack.size() - 1);
        }
        if (keep && stack.size() > 1) {
            emit(Kit.BR, 0);
            return;
        }
        if (result != 0 && !keep) {
            value(stack, result);
        }
    }

    /** Brings a value of a kind on top: one that is there already, or a new one. */
    private void value(List<Integer> stack, int kind) {
        if (!stack.isEmpty() && stack.get(stack.size() - 1) == kind && !oneIn(3)) {
            return;
        }
        List<Integer> fitting = new ArrayList<>();
        for (int v = 0; v < variables.length; v++) {
            if (variables[v] == kind) {
                fitting.add(v);
            }
        }
        if (!fitting.isEmpty() && !oneIn(3)) {
            emit(Kit.GET, fitting.get(below(fitting.size())));
        } else {
            emit(kind == 1 ? Kit.INT : Kit.LONG);
            emitConst(kind, number(kind));
        }
        stack.add(kind);
    }

    /** Values of kinds on top, in this order. */
    private void values(List<Integer> stack, int... kinds) {
        int size = stack.size();
        boolean there = size >= kinds.length;
        for (int i = 0; there && i < kinds.length; i++) {
            there = stack.get(size - kinds.length + i) == kinds[i];
        }
        if (there && !oneIn(3)) {
            return;
        }
        for (int i = 0; i < kinds.length; i++) {
            if (i == 0) {
                value(stack, kinds[i]);
            } else {
                int before = stack.size();
                List<Integer> none = new ArrayList<>();
                value(none, kinds[i]);
                stack.add(before, kinds[i]);
            }
        }
    }

    private void operation(List<Integer> stack, int given, int[] taken, int... bytes) {
        values(stack, taken);
        for (int i = 0; i < taken.length; i++) {
            stack.remove(stack.size() - 1);
        }
        emit(bytes);
        if (given != 0) {
            stack.add(given);
        }
    }

    /** True if the code is dead behind it. */
    private boolean instruction(List<Integer> stack) {
        switch (below(16)) {
            case 0, 1 -> value(stack, kind());
            case 2, 3 -> numeric(stack);
            case 4 -> variable(stack);
            case 5 -> global(stack);
            case 6, 7 -> access(stack);
            case 8, 9 -> structured(stack);
            case 10, 11 -> {
                return branch(stack);
            }
            case 12, 13 -> call(stack);
            case 14 -> {
                if (oneIn(2)) {
                    int kind = kind();
                    operation(stack, kind, new int[] {kind, kind, 1}, Kit.SELECT);
                } else if (!stack.isEmpty()) {
                    emit(Kit.DROP);
                    stack.remove(stack.size() - 1);
                } else {
                    emit(Kit.NOP);
                }
            }
            default -> numeric(stack);
        }
        return false;
    }

    private void numeric(List<Integer> stack) {
        int op = 28 + below(39);
        if (op == 28) {
            operation(stack, 1, new int[] {1}, op);
        } else if (op == 46) {
            operation(stack, 1, new int[] {2}, op);
        } else if (op < 46) {
            operation(stack, 1, new int[] {1, 1}, op);
        } else if (op < 64) {
            operation(stack, op < 52 ? 1 : 2, new int[] {2, 2}, op);
        } else {
            operation(stack, op == 64 ? 1 : 2, new int[] {op == 64 ? 2 : 1}, op);
        }
    }

    private void variable(List<Integer> stack) {
        if (variables.length == 0) {
            emit(Kit.NOP);
            return;
        }
        int v = below(variables.length);
        int op = Kit.GET + below(3);
        int[] taken = op == Kit.GET ? new int[0] : new int[] {variables[v]};
        operation(stack, op == Kit.SET ? 0 : variables[v], taken, op, v);
    }

    private void global(List<Integer> stack) {
        if (globals.isEmpty()) {
            emit(Kit.NOP);
            return;
        }
        int g = below(globals.size());
        int kind = globals.get(g)[0];
        if (globals.get(g)[1] == 1 && oneIn(2)) {
            operation(stack, 0, new int[] {kind}, Kit.GSET, g);
        } else {
            operation(stack, kind, new int[0], Kit.GGET, g);
        }
    }

    private void access(List<Integer> stack) {
        if (!memory) {
            return;
        }
        int op = Kit.LOAD8 + below(6);
        int o = oneIn(8) ? below(256) : below(8);
        int kind = op == Kit.LOAD64 || op == Kit.STORE64 ? 2 : 1;
        if (op < Kit.STORE8) {
            operation(stack, kind, new int[] {1}, op, o);
        } else {
            operation(stack, 0, new int[] {1, kind}, op, o);
        }
    }

    private void structured(List<Integer> stack) {
        int op = Kit.BLOCK + below(3);
        if (labels.size() >= 8 && !oneIn(20)) {
            return;
        }
        int result = oneIn(2) ? 0 : kind();
        operation(stack, 0, op == Kit.IF ? new int[] {1} : new int[0], op, result);
        if (op == Kit.IF && (result != 0 || oneIn(2))) {
            labels.add(result);
            List<Integer> inner = new ArrayList<>();
            boolean dead = inside(inner);
            finish(inner, result, dead);
            labels.remove(labels.size() - 1);
            emit(Kit.ELSE);
        }
        part(result, op == Kit.LOOP ? 0 : result);
        if (result != 0) {
            stack.add(result);
        }
    }

    private boolean branch(List<Integer> stack) {
        int d = below(labels.size());
        int wants = labels.get(labels.size() - 1 - d);
        int[] taken = wants == 0 ? new int[0] : new int[] {wants};
        int[] takenWithInt = wants == 0 ? new int[] {1} : new int[] {wants, 1};
        int which = below(10);
        if (which < 5) {
            operation(stack, wants, takenWithInt, Kit.BR_IF, d);
            return false;
        }
        if (which == 5) {
            emit(Kit.TRAP);
        } else if (which == 6) {
            operation(stack, 0, bodyResult == 0 ? new int[0] : new int[] {bodyResult}, Kit.RETURN);
        } else if (which == 7) {
            operation(stack, 0, taken, Kit.BR, d);
        } else {
            values(stack, takenWithInt);
            List<Integer> alike = new ArrayList<>();
            for (int i = 0; i < labels.size(); i++) {
                if (labels.get(labels.size() - 1 - i) == wants) {
                    alike.add(i);
                }
            }
            int n = below(5);
            emit(Kit.BR_TABLE, n);
            for (int i = 0; i <= n; i++) {
                emit(alike.get(below(alike.size())));
            }
        }
        stack.clear();
        return true;
    }

    private void call(List<Integer> stack) {
        boolean direct = oneIn(2);
        int f = below(functionTypes.size());
        int type = direct ? functionTypes.get(f) : below(types.size());
        int[] t = types.get(type);
        int[] taken = new int[t[0] + (direct ? 0 : 1)];
        for (int i = 0; i < taken.length; i++) {
            taken[i] = i < t[0] ? t[1 + i] : 1;
        }
        operation(stack, t[t.length - 1], taken, direct ? Kit.CALL : Kit.CALL_INDIRECT, direct ? f : type);
    }
}
