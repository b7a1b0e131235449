/** What the tests of bytes share: rows of bytes, faults of reading them, and classes for their things. */
abstract class ByteChecks {
    static int[] row(int... bytes) {
        return bytes;
    }

    static int[] join(int[]... parts) {
        int count = 0;
        for (int[] part : parts) {
            count += part.length;
        }
        int[] all = new int[count];
        int at = 0;
        for (int[] part : parts) {
            System.arraycopy(part, 0, all, at, part.length);
            at += part.length;
        }
        return all;
    }

    static void tapeIs(Check c, int... due) {
        Check.same("tape", c.x.about(0), due.length);
        for (int k = 0; k < due.length; k++) {
            Check.same("letter " + k, c.x.letter(k), due[k]);
        }
    }

    static void fault(Check c, int code, int place, int... bytes) {
        c.tape(bytes);
        int had = c.x.picture(3, 0);
        String what = java.util.Arrays.toString(bytes);
        Check.refused(what, Check.ARGUMENT, () -> c.x.load(3));
        Check.same(what + " fault", c.x.fault(0), code);
        Check.same(what + " place", c.x.fault(1), place);
        Check.same(what + " leaves the picture", c.x.picture(3, 0), had);
    }

    // Classes A (link a to anything, BYTE n), B an heir of A (link b to B), W without fields.
    static HeapWorks classes(Check c) {
        c.type("A");
        c.link(0, "a", -1);
        c.field(0, "n", 1);
        c.type("B", 0, 0);
        c.link(1, "b", 1);
        c.field(1, "s", 5, -1, true);
        c.type("W");
        return c.x;
    }
}
