/** Promises 7 to 10: classes, fields and their layout. */
public final class ClassTest {
    public static void main(String[] args) {
        types();
        names();
        fields();
        layout();
        used();
        Check.done("ClassTest");
    }

    // Promise 7
    private static void types() {
        Check c = new Check();
        HeapWorks x = c.x;
        c.text("A");
        Check.refused("parent", Check.INDEX, () -> x.type(0, 0));
        Check.refused("parent", Check.INDEX, () -> x.type(-2, 0));
        Check.refused("loader", Check.INDEX, () -> x.type(-1, 4));
        Check.refused("loader", Check.INDEX, () -> x.type(-1, -1));
        Check.same("the tape stays", x.about(0), 1);
        Check.same("A", x.type(-1, 0), 0);
        Check.same("the tape is empty", x.about(0), 0);
        c.text("A");
        Check.refused("the same name", Check.STATE, () -> x.type(0, 0));
        Check.same("another loader", x.type(0, 3), 1);
        Check.same("parent", x.typeLook(1, 0), 0);
        Check.same("no parent", x.typeLook(0, 0), -1);
        Check.same("loader", x.typeLook(1, 1), 3);
        Check.same("another what", x.typeLook(0, 8), -1);
        Check.same("another what", x.typeLook(0, -1), -1);
        Check.same("no class", x.typeLook(2, 0), -1);
        Check.same("no class", x.typeLook(-1, 1), -1);
        for (int k = 2; k < 16; k++) {
            Check.same("class", c.type("C" + k, k - 1, 1), k);
        }
        c.text("Last");
        Check.refused("a 17th", Check.STATE, () -> x.type(-1, 0));
        c.text("1x");
        Check.refused("no name first", Check.ARGUMENT, () -> x.type(-1, 0));
        Check.refused("no parent first", Check.INDEX, () -> x.type(16, 0));
        Check.same("classes", x.about(1), 16);
    }

    private static void names() {
        String[] none = {"", "1", "1a", "a ", " a", "a-b", "a.b", "abcdefghijk", "all", "own", "things", "thing", "where",
            "get", "and", "or", "not", "null", "true", "false", "is", "in", "count", "sum", "most", "least", "some", "each",
            "size", "kept", "depth", "length", "class", "slots", "held", "from", "it", "\u00e9", "a\n", "_"};
        Check c = new Check();
        for (String name : none) {
            c.text(name);
            Check.refused("'" + name + "'", Check.ARGUMENT, () -> c.x.type(-1, 0));
        }
        String[] good = {"a", "Z", "abcdefghij", "a123456789", "All", "its", "thin", "if", "link", "allx"};
        for (int k = 0; k < good.length; k++) {
            Check.same(good[k], c.type(good[k]), k);
        }
        for (String name : none) {
            c.text(name);
            Check.refused("'" + name + "'", Check.ARGUMENT, () -> c.x.field(0, 0, 0, false));
        }
        manyNames();
    }

    // All names of two letters or digits are different ones.
    private static void manyNames() {
        String signs = "ABCDEFGHIJKLMNOPQRSTUVWXYZabcdefghijklmnopqrstuvwxyz0123456789";
        String[] own = {"a0", "Z9", "mM", "cU"};
        Check c = new Check();
        for (int k = 0; k < own.length; k++) {
            c.type(own[k]);
            c.x.root(c.x.make(k, 0), true);
        }
        c.x.take(0);
        for (int a = 0; a < 52; a++) {
            for (int b = 0; b < signs.length(); b++) {
                String name = "" + signs.charAt(a) + signs.charAt(b);
                if (!name.equals("is") && !name.equals("in") && !name.equals("it") && !name.equals("or")) {
                    Check.same(name, c.ask(0, "own " + name), java.util.Arrays.asList(own).contains(name) ? 1 : 0);
                }
            }
        }
    }

    // Promises 8 and 10
    private static void fields() {
        Check c = new Check();
        HeapWorks x = c.x;
        c.type("A");
        c.type("B", 0, 0);
        c.text("f");
        Check.refused("no class", Check.INDEX, () -> x.field(2, 0, 0, false));
        Check.refused("no class", Check.INDEX, () -> x.field(-1, 9, 0, false));
        Check.refused("no kind", Check.ARGUMENT, () -> x.field(1, 6, 0, false));
        Check.refused("no kind", Check.ARGUMENT, () -> x.field(1, -1, 0, false));
        int[] none = {2, 15, 16, 19, 25, 28, 32, 46, -2};
        for (int type : none) {
            Check.refused("no type " + type, Check.ARGUMENT, () -> x.field(1, 5, type, false));
        }
        Check.refused("a used class, but no kind", Check.ARGUMENT, () -> x.field(0, 7, 0, false));
        Check.refused("a used class", Check.STATE, () -> x.field(0, 0, 0, false));
        Check.same("the tape stays", x.about(0), 1);
        Check.same("f", x.field(1, 3, 99, false), 0);
        Check.same("the tape is empty", x.about(0), 0);
        c.text("f");
        Check.refused("the same name", Check.STATE, () -> x.field(1, 0, 0, true));
        int[] good = {-1, 20, 29, 31, 1};
        for (int k = 0; k < good.length; k++) {
            Check.same("link", c.field(1, "l" + k, 5, good[k], k == 2), k + 1);
            Check.same("its type", x.fieldLook(1, k + 1, 1), good[k]);
        }
        c.text("g");
        Check.refused("a 7th", Check.STATE, () -> x.field(1, 0, 0, false));
        Check.same("kind", x.fieldLook(1, 0, 0), 3);
        Check.same("no link's type", x.fieldLook(1, 0, 1), -1);
        Check.same("not static", x.fieldLook(1, 0, 2), 0);
        Check.same("static", x.fieldLook(1, 3, 2), 1);
        Check.same("slot", x.fieldLook(1, 2, 3), 2);
        Check.same("static's number", x.fieldLook(1, 3, 3), 0);
        Check.same("slot behind a static", x.fieldLook(1, 4, 3), 3);
        Check.same("byte of a static", x.fieldLook(1, 3, 4), -1);
        Check.same("another what", x.fieldLook(1, 0, 5), -1);
        Check.same("another what", x.fieldLook(1, 0, -1), -1);
        Check.same("no field", x.fieldLook(1, 6, 0), -1);
        Check.same("no field", x.fieldLook(0, 0, 0), -1);
        Check.same("no field", x.fieldLook(1, -1, 0), -1);
        Check.same("no class", x.fieldLook(2, 0, 0), -1);
        Check.same("own fields", x.typeLook(1, 2), 6);
        Check.same("slots", x.typeLook(1, 3), 5);
        Check.same("statics", x.typeLook(1, 6), 1);
        Check.same("fields of the parent", x.typeLook(0, 2), 0);
    }

    // The document's LAYOUT
    private static void layout() {
        Check c = new Check();
        HeapWorks x = c.x;
        c.type("A");
        Check.same("size of nothing", x.typeLook(0, 4), 16);
        c.field(0, "bit", 0);
        Check.same("first byte", x.fieldLook(0, 0, 4), 12);
        Check.same("size", x.typeLook(0, 4), 16);
        c.field(0, "sh", 2);
        c.field(0, "lo", 4);
        c.field(0, "num", 3);
        c.field(0, "li", 5);
        c.field(0, "by", 1);
        // long 16..24, int 24..28, link 28..32, short 32..34, bit 34, byte 35
        int[] due = {34, 32, 16, 24, 28, 35};
        for (int k = 0; k < 6; k++) {
            Check.same("first byte " + k, x.fieldLook(0, k, 4), due[k]);
            Check.same("slot " + k, x.fieldLook(0, k, 3), k);
        }
        Check.same("size", x.typeLook(0, 4), 40);
        c.type("B", 0, 0);
        Check.same("size without own fields", x.typeLook(1, 4), 40);
        c.field(1, "stat", 4, -1, true);
        Check.same("size with a static", x.typeLook(1, 4), 40);
        c.field(1, "sh", 2);
        Check.same("behind the parent's last", x.fieldLook(1, 1, 4), 36);
        Check.same("its slot", x.fieldLook(1, 1, 3), 6);
        c.field(1, "lo", 4);
        Check.same("the long one first", x.fieldLook(1, 2, 4), 40);
        Check.same("the short one behind it", x.fieldLook(1, 1, 4), 48);
        Check.same("size", x.typeLook(1, 4), 56);
        Check.same("slots", x.typeLook(1, 3), 8);
        c.type("C", 1, 0);
        c.field(2, "by", 1);
        Check.same("where the parent's end, not its size", x.fieldLook(2, 0, 4), 50);
        Check.same("size", x.typeLook(2, 4), 56);
        int[] elements = {1, 1, 2, 4, 8};
        for (int k = 0; k < 5; k++) {
            int o = x.make(20 + k, 9);
            Check.same("array's size", x.object(o, 2), (16 + 9 * elements[k] + 7) / 8 * 8);
        }
        Check.same("links", x.object(x.make(29, 1), 2), 24);
        Check.same("links", x.object(x.make(30, 2), 2), 24);
        Check.same("empty", x.object(x.make(24, 0), 2), 16);
    }

    private static void used() {
        Check c = new Check();
        HeapWorks x = c.x;
        c.type("A");
        c.type("B", 0, 0);
        c.type("C", 1, 0);
        c.type("D");
        Check.same("a parent is used", x.typeLook(0, 5), 1);
        Check.same("a parent is used", x.typeLook(1, 5), 1);
        Check.same("an heir is not", x.typeLook(2, 5), 0);
        x.make(33, 3);
        Check.same("an array does not use its class", x.typeLook(3, 5), 0);
        x.make(2, 0);
        Check.same("used", x.typeLook(2, 5), 1);
        c.text("f");
        Check.refused("no new field", Check.STATE, () -> x.field(2, 0, 0, true));
        Check.same("objects without heirs", x.typeLook(0, 7), 0);
        Check.same("objects", x.typeLook(2, 7), 1);
        x.collect();
        Check.same("objects that are there", x.typeLook(2, 7), 0);
        Check.same("still used", x.typeLook(2, 5), 1);
    }
}
