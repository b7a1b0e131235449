import java.io.File;
import java.lang.reflect.Method;
import java.lang.reflect.Modifier;
import java.nio.charset.StandardCharsets;
import java.nio.file.Files;
import java.nio.file.Paths;

/** What README.md tells: its examples stand here to the letter and answer what they say; it names every call and test. */
public final class ReadmeTest {
    private static final String SELF = "src/test/java/ReadmeTest.java";

    public static void main(String[] args) throws Exception {
        String readme = read("README.md");
        examplesStandInBoth(readme);
        example();
        namesCalls(readme);
        namesTests(readme);
        Check.done("ReadmeTest");
    }

    private static String read(String file) throws Exception {
        return new String(Files.readAllBytes(Paths.get(file)), StandardCharsets.UTF_8);
    }

    // README: the helper
    static void write(HeapWorks works, String text) {
        works.wipe();
        for (int at = 0; at < text.length(); at += 20) {
            int count = Math.min(20, text.length() - at);
            int[] four = new int[5];
            for (int k = 0; k < count; k++) {
                four[k / 4] |= text.charAt(at + k) << 24 - k % 4 * 8;
            }
            works.feed(four[0], four[1], four[2], four[3], four[4]);
            works.end(count);
        }
    }
    // README ends

    private static void example() {
        // README: classes and objects
        HeapWorks works = new HeapWorks();
        write(works, "Node");
        int node = works.type(HeapWorks.NONE, 0);      // a class; the tape is empty again
        write(works, "next");
        works.field(node, 5, node, false);             // slot 0: a LINK to a Node
        write(works, "val");
        works.field(node, 3, HeapWorks.NONE, false);   // slot 1: an INT
        int a = works.make(node, 0);
        int b = works.make(node, 0);
        works.set(a, 0, b);                            // a.next = b
        works.set(b, 1, 7);                            // b.val = 7
        works.root(a, true);
        // README ends
        Check.same("node", node, 0);
        Check.same("writes", works.about(5), 2);
        Check.same("tape", works.about(0), 0);

        // README: a picture
        int things = works.take(0);                    // 2: picture 0 has two things
        int dominator = works.thing(0, 1, 8);          // 0: thing 0 dominates thing 1
        int kept = works.thing(0, 0, 9);               // 48: the SIZES of both
        // README ends
        Check.same("things", things, 2);
        Check.same("dominator", dominator, 0);
        Check.same("kept", kept, 48);

        // README: a question
        write(works, "all Node where it.val > 0 get it.val + 1");
        int rows = works.ask(0);                       // 1 row
        long thing = works.answer(0, 0);               // 1: of thing 1
        long value = works.answer(0, 2);               // 8
        // README ends
        Check.same("rows", rows, 1);
        Check.same("thing", thing, 1);
        Check.same("value", value, 8);

        // README: rules
        write(works, "reach(x, y) if link(x, y); reach(x, z) if reach(x, y), link(y, z);");
        int facts = works.rules(0);                    // 1 fact
        boolean reaches = works.isFact(0, 0, 1);       // true: thing 0 reaches thing 1
        // README ends
        Check.same("facts", facts, 1);
        Check.same("reaches", reaches, true);

        // README: a promise
        write(works, "each(n in all Node : n.val >= 0)");
        int promise = works.promise();
        int culprit = works.set(b, 1, -1);             // 2: the write's number
        int broken = works.broken(promise);            // 2: that write broke it
        int undone = works.undo();                     // 2: b.val is 7 again
        // README ends
        Check.same("culprit", culprit, 2);
        Check.same("broken", broken, 2);
        Check.same("undone", undone, 2);
        Check.same("b.val", works.get(b, 1), 7);

        // README: the log
        int records = works.keep(0);                   // 1 record
        int recalled = works.recall(1, 0);             // 2: picture 1 is what it keeps
        int left = works.reopen(10);                   // 0: a cut within the record leaves none
        // README ends
        Check.same("records", records, 1);
        Check.same("recalled", recalled, 2);
        Check.same("left", left, 0);

        // README: a fault
        write(works, "all Node where it.val >");
        int fault = 0;
        int place = 0;
        try {
            works.ask(0);
        } catch (IllegalArgumentException e) {
            fault = works.fault(0);                    // 1: a word that can't stand there
            place = works.fault(1);                    // 23: at the end of the text
        }
        // README ends
        Check.same("fault", fault, 1);
        Check.same("place", place, 23);
    }

    // What stands here between "// README:" and "// README ends" stands in README.md too, further to the left.
    private static void examplesStandInBoth(String readme) throws Exception {
        int examples = 0;
        String indent = null;
        StringBuilder example = new StringBuilder();
        for (String line : read(SELF).split("\n")) {
            if (line.trim().startsWith("// README:")) {
                indent = line.substring(0, line.indexOf("//"));
                example.setLength(0);
            } else if (line.trim().equals("// README ends") && indent != null) {
                Check.same("in README.md:\n" + example, readme.contains(example), true);
                indent = null;
                examples++;
            } else if (indent != null) {
                example.append(line.substring(indent.length())).append('\n');
            }
        }
        Check.same("examples", examples, 8);
    }

    private static void namesCalls(String readme) {
        int calls = 0;
        for (Method m : HeapWorks.class.getDeclaredMethods()) {
            if (Modifier.isPublic(m.getModifiers())) {
                Check.same("README.md names " + m.getName(), readme.contains("`" + m.getName() + "`"), true);
                calls++;
            }
        }
        Check.same("calls", calls, 51);
    }

    private static void namesTests(String readme) {
        String[] files = new File("src/test/java").list();
        int tests = 0;
        for (int k = 0; files != null && k < files.length; k++) {
            if (files[k].endsWith("Test.java")) {
                Check.same("README.md names " + files[k], readme.contains("`" + files[k].replace(".java", "") + "`"), true);
                tests++;
            }
        }
        Check.same("there are tests", tests > 0, true);
        Check.same("README.md tells how to run them", readme.contains("\n.ci/run\n"), true);
    }
}
