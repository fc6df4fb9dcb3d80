import java.nio.file.Files;
import java.nio.file.Path;
import java.util.regex.Matcher;
import java.util.regex.Pattern;

/** The examples of README.md: their text stands in this file as well, and is run. Run from the project's root. */
public final class ReadmeTest {
    public static void main(String[] args) throws Exception {
        texts();
        examples();
        Kit.end();
    }

    private static void texts() throws Exception {
        String here = withoutIndent(Files.readString(Path.of("src/test/java/ReadmeTest.java")));
        Matcher block = Pattern.compile("(?s)```java\n(.*?)```").matcher(Files.readString(Path.of("README.md")));
        int found = 0;
        while (block.find()) {
            found++;
            Kit.due("example " + found + " stands in ReadmeTest", here.contains(withoutIndent(block.group(1))), true);
        }
        Kit.due("the examples of README.md", found, 3);
    }

    private static String withoutIndent(String text) {
        return text.replaceAll("(?m)^ +", "");
    }

    private static void examples() {
        WasmSandbox x = new WasmSandbox();
        // One type (int int -> int), no imports, one function: GET 0, GET 1, ADD, END; no globals, table, memory.
        int[] add = {1, 2, 1, 1, 1, 1, 0, 1, 0, 0, 15, 0, 15, 1, 34, 6, 0, 0, 0};
        for (int b : add) {
            x.put(b);
        }
        int loaded = x.load(0);                 // WasmSandbox.OK
        int outcome = x.invoke(0, 0, 40, 2, 0); // WasmSandbox.DONE
        long sum = x.result();                  // 42

        Kit.due("loaded", loaded, WasmSandbox.OK);
        Kit.due("outcome", outcome, WasmSandbox.DONE);
        Kit.due("sum", sum, 42);
        linkedExample(x);
        failingExample(x);
    }

    private static void linkedExample(WasmSandbox x) {
        x.clear();
        // Four types: int int -> int, int ->, -> int, ->. Three imports: slot 0's function 0, print, input.
        // One function: CALL input, CALL input, CALL add, CALL print, END.
        int[] linked = {
            4, 2, 1, 1, 1, 1, 1, 1, 0, 0, 1, 1, 0, 0,
            3, 0, 0, 1, 16, 2, 17,
            1, 3, 0, 11, 2, 11, 2, 11, 0, 11, 1, 6,
            0, 0, 0};
        for (int b : linked) {
            x.put(b);
        }
        int second = x.load(1);                 // WasmSandbox.OK
        x.feed(30);
        x.feed(4);
        int run = x.invoke(1, 3, 0, 0, 0);      // WasmSandbox.DONE: function 3, behind the three imports
        int shown = x.printed(0);               // 34
        int fuel = x.used();                    // 1, for the call into slot 0

        Kit.due("second", second, WasmSandbox.OK);
        Kit.due("run", run, WasmSandbox.DONE);
        Kit.due("shown", shown, 34);
        Kit.due("fuel", fuel, 1);
    }

    private static void failingExample(WasmSandbox x) {
        x.clear();
        // One type (int -> int), one function: CONST 1, GET 0, DIV, END.
        int[] divide = {1, 1, 1, 1, 1, 0, 1, 0, 0, 20, 1, 15, 0, 37, 6, 0, 0};
        for (int b : divide) {
            x.put(b);
        }
        int early = x.load(0);                  // WasmSandbox.MALFORMED: the byte for the memory is not there
        int missing = x.place();                // 17
        x.put(0);
        int complete = x.load(0);               // WasmSandbox.OK; slot 1 is empty now
        int trap = x.invoke(0, 0, 0, 0, 0);     // WasmSandbox.DIVIDE
        int where = x.trappedAt();              // 13: 1000 * the slot + the place of DIV

        Kit.due("early", early, WasmSandbox.MALFORMED);
        Kit.due("missing", missing, 17);
        Kit.due("complete", complete, WasmSandbox.OK);
        Kit.due("slot 1 is empty", x.invoke(1, 3, 0, 0, 0), WasmSandbox.BAD);
        Kit.due("trap", trap, WasmSandbox.DIVIDE);
        Kit.due("where", where, 13);
    }
}
