import java.util.ArrayList;
import java.util.List;

/** A module from its parts, and the places of those parts in its bytes. */
final class Mod {
    private final List<int[]> types = new ArrayList<>();
    private final List<int[]> imports = new ArrayList<>();
    private final List<int[]> functions = new ArrayList<>();
    private final List<int[]> globals = new ArrayList<>();
    private final List<int[]> data = new ArrayList<>();
    private int[] entries = {};
    private boolean memory = false;

    Mod type(int[] parameters, int... result) {
        types.add(Kit.join(Kit.b(parameters.length), parameters, Kit.b(result.length), result));
        return this;
    }

    Mod imports(int type, int what) {
        imports.add(Kit.b(type, what));
        return this;
    }

    /** Without locals; the END of the body is added. */
    Mod function(int type, int... body) {
        return functionWith(type, new int[0], body);
    }

    Mod functionWith(int type, int[] locals, int... body) {
        functions.add(Kit.join(Kit.b(type, locals.length), locals, body, Kit.b(Kit.END)));
        return this;
    }

    Mod global(int kind, int mayBeSet, int... constant) {
        globals.add(Kit.join(Kit.b(kind, mayBeSet), constant));
        return this;
    }

    Mod table(int... all) {
        entries = all;
        return this;
    }

    Mod memory() {
        memory = true;
        return this;
    }

    Mod data(int offset, int... bytes) {
        memory = true;
        data.add(Kit.join(Kit.b(offset, bytes.length), bytes));
        return this;
    }

    int[] bytes() {
        int[] rest = memory ? Kit.join(Kit.b(1), list(data)) : Kit.b(0);
        return Kit.join(list(types), list(imports), list(functions), list(globals), Kit.b(entries.length), entries, rest);
    }

    private static int[] list(List<int[]> parts) {
        return Kit.list(parts.toArray(new int[0][]));
    }

    private static int length(List<int[]> parts, int n) {
        int sum = 0;
        for (int[] part : parts.subList(0, n)) {
            sum += part.length;
        }
        return sum;
    }

    private static int length(List<int[]> parts) {
        return 1 + length(parts, parts.size());
    }

    /** The place of the type number of an import; what follows it. */
    int importAt(int i) {
        return length(types) + 1 + 2 * i;
    }

    /** The place of the type number of a function, counted without the imports. */
    int functionAt(int f) {
        return length(types) + length(imports) + 1 + length(functions, f);
    }

    /** The place of the k-th byte of a function's body. */
    int bodyAt(int f, int k) {
        return functionAt(f) + 2 + functions.get(f)[1] + k;
    }

    int globalAt(int g) {
        return length(types) + length(imports) + length(functions) + 1 + length(globals, g);
    }

    int entryAt(int i) {
        return globalAt(globals.size()) + 1 + i;
    }

    /** The place of the offset of a DATA. */
    int dataAt(int i) {
        return entryAt(entries.length) + 2 + length(data, i);
    }
}
