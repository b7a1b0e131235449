import java.util.NoSuchElementException;

/** What the tests of single promises share: an object under test, texts for its tape, and expectations. */
final class Check {
    static final Class<?> INDEX = IndexOutOfBoundsException.class;
    static final Class<?> ARGUMENT = IllegalArgumentException.class;
    static final Class<?> STATE = IllegalStateException.class;
    static final Class<?> ELEMENT = NoSuchElementException.class;

    interface Call {
        Object run();
    }

    private static int wrong;
    private static int checks;
    private static String said = "";

    final HeapWorks x = new HeapWorks();

    // What the document says there, for the tests of its sentences: it is printed with what is wrong.
    static void saying(String sentence) {
        said = sentence;
    }

    private static void tell(String what, Object got, Object want) {
        wrong++;
        System.out.println((said.isEmpty() ? "" : said + "\n  ") + what + ": got " + got + ", due is " + want);
    }

    static void same(String what, long got, long want) {
        checks++;
        if (got != want) {
            tell(what, got, want);
        }
    }

    static void same(String what, boolean got, boolean want) {
        same(what, got ? 1 : 0, want ? 1 : 0);
    }

    // The exception must be of that very class: what the machine throws is of a class below it.
    static void refused(String what, Class<?> by, Call call) {
        checks++;
        Object got;
        try {
            got = call.run();
        } catch (RuntimeException e) {
            got = e.getClass();
        }
        if (got != by) {
            tell(what, got, by);
        }
    }

    static void done(String test) {
        System.out.println(test + ": " + checks + " checks, " + wrong + " wrong");
        if (wrong != 0 || checks == 0) {
            System.exit(1);
        }
    }

    // Puts bytes behind what the tape has.
    void add(int... bytes) {
        for (int at = 0; at < bytes.length; at += 20) {
            int[] four = new int[5];
            for (int k = 0; k < 20 && at + k < bytes.length; k++) {
                four[k / 4] |= (bytes[at + k] & 255) << (24 - k % 4 * 8);
            }
            x.feed(four[0], four[1], four[2], four[3], four[4]);
            int had = x.about(0);
            int count = Math.min(20, bytes.length - at);
            same("end", x.end(count), had + count);
        }
    }

    void tape(int... bytes) {
        x.wipe();
        add(bytes);
    }

    // A picture's bytes with the CHECK behind them.
    static int[] checked(int... bytes) {
        int h = 1;
        for (int b : bytes) {
            h = h * 16777619 ^ b;
        }
        int[] all = java.util.Arrays.copyOf(bytes, bytes.length + 4);
        for (int k = 0; k < 4; k++) {
            all[bytes.length + k] = h >>> 8 * k & 255;
        }
        return all;
    }

    void text(String s) {
        int[] bytes = new int[s.length()];
        for (int k = 0; k < bytes.length; k++) {
            bytes[k] = s.charAt(k);
        }
        tape(bytes);
    }

    int type(String name, int parent, int loader) {
        text(name);
        return x.type(parent, loader);
    }

    int type(String name) {
        return type(name, HeapWorks.NONE, 0);
    }

    int field(int type, String name, int kind, int link, boolean isStatic) {
        text(name);
        return x.field(type, kind, link, isStatic);
    }

    int field(int type, String name, int kind) {
        return field(type, name, kind, HeapWorks.NONE, false);
    }

    int link(int type, String name, int link) {
        return field(type, name, 5, link, false);
    }

    int ask(int p, String question) {
        text(question);
        return x.ask(p);
    }

    // The one value of a question with one row, as sort and value.
    void value(String question, int sort, long value) {
        text(question);
        try {
            same(question + " rows", x.ask(0), 1);
            same(question + " sort", x.answer(0, 1), sort);
            same(question + " value", x.answer(0, 2), value);
            same(question + " fault", x.fault(0), 0);
        } catch (RuntimeException e) {
            same(question + " throws " + e + ", fault " + x.fault(0) + " at " + x.fault(1), 1, 0);
        }
    }

    void number(String e, long value) {
        value("from thing 0 where it = thing 0 get " + e, 0, value);
    }

    void truth(String e, boolean value) {
        value("from thing 0 where it = thing 0 get " + e, 1, value ? 1 : 0);
    }

    void nothing(String e) {
        value("from thing 0 where it = thing 0 get " + e, 4, 0);
    }

    // A question that is at fault.
    void fault(String question, int code, int place) {
        text(question);
        refused(question, ARGUMENT, () -> x.ask(0));
        same(question + " fault", x.fault(0), code);
        same(question + " place", x.fault(1), place);
        same(question + " rows", x.about(11), 0);
        same(question + " tape stays", x.about(0), question.length());
    }

    static String repeat(String s, int n) {
        StringBuilder all = new StringBuilder();
        for (int k = 0; k < n; k++) {
            all.append(s);
        }
        return all.toString();
    }
}
