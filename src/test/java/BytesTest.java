/** Promises 46 and 48 to 51: pictures as bytes, and the log. */
public final class BytesTest extends ByteChecks {
    public static void main(String[] args) {
        encoding();
        everyKind();
        numbers();
        ends();
        wrongThings();
        wrongValues();
        wrongLinks();
        wrongRoots();
        checks();
        wrongOrder();
        loadUses();
        tooLong();
        log();
        logLimits();
        Check.done("BytesTest");
    }

    // Every byte cut off the end is a fault of an early end.
    private static void allEnds(Check c, int... bytes) {
        c.tape(bytes);
        Check.same("whole", c.x.load(2) >= 0, true);
        for (int n = bytes.length - 1; n >= 0; n--) {
            c.x.cut(n);
            Check.refused("cut", Check.ARGUMENT, () -> c.x.load(2));
            Check.same("ends", c.x.fault(0), 1);
            Check.same("at its length", c.x.fault(1), n);
        }
    }

    private static Check classes() {
        Check c = new Check();
        classes(c);
        return c;
    }

    // Promise 46
    private static void encoding() {
        Check c = classes();
        HeapWorks x = c.x;
        x.bytes(0);
        tapeIs(c, Check.checked(72, 80, 0, 0));
        for (int k = 0; k < 130; k++) {
            x.make(2, 0);
        }
        int a = x.make(0, 0);
        int b = x.make(1, 0);
        int array = x.make(31, 2);
        x.set(a, 0, array);
        x.set(a, 1, -128);
        x.set(array, 1, b);
        x.set(b, 1, 127);
        x.set(b, 2, b);
        x.root(a, true);
        x.root(5, true);
        x.setStatic(1, 0, b);
        x.take(0);
        int[] due = Check.checked(72, 80, 4, 130, 1, 0, 0, 4, 255, 1, 5, 2, 0, 131, 1, 1, 0, 0, 254, 1, 3, 132, 1, 31, 2, 0, 3,
            3, 0, 0, 1, 1, 2, 2);
        Check.same("how many", x.bytes(0), due.length);
        tapeIs(c, due);
        Check.refused("p", Check.INDEX, () -> x.bytes(4));
        Check.refused("p", Check.INDEX, () -> x.bytes(-1));
        // Promise 48
        Check.same("load", x.load(1), 4);
        tapeIs(c, due);
        Check.same("nothing new", x.growth(0, 1, 0), 0);
        Check.same("nothing changed", x.growth(0, 1, 2), 0);
        for (int t = 0; t < 4; t++) {
            for (int what = 0; what < 13; what++) {
                Check.same("thing " + t + " what " + what, x.thing(1, t, what), x.thing(0, t, what));
            }
        }
        Check.refused("p", Check.INDEX, () -> x.load(4));
        Check.refused("p", Check.INDEX, () -> x.load(-1));
        allEnds(c, due);
    }

    private static void everyKind() {
        Check c = new Check();
        HeapWorks x = c.x;
        long[][] values = {{0, 1}, {-128, 127}, {-32768, 32767}, {-2147483648L, 2147483647L},
            {Long.MIN_VALUE, Long.MAX_VALUE}};
        for (int kind = 0; kind < 5; kind++) {
            int o = x.make(20 + kind, 2);
            x.set(o, 0, values[kind][0]);
            x.set(o, 1, values[kind][1]);
            x.root(o, true);
        }
        x.take(0);
        x.bytes(0);
        int[] longs = {255, 255, 255, 255, 255, 255, 255, 255, 255, 1};
        int at = x.about(0) - 4 - 11 - 20;
        for (int k = 0; k < 10; k++) {
            Check.same("the least", x.letter(at + k), longs[k]);
            Check.same("the greatest", x.letter(at + 10 + k), k == 0 ? 254 : longs[k]);
        }
        Check.same("load", x.load(2), 5);
        for (int kind = 0; kind < 5; kind++) {
            for (int k = 0; k < 2; k++) {
                Check.same("value", x.slot(2, kind, k), values[kind][k]);
            }
        }
    }

    // FAULT 3
    private static void numbers() {
        Check c = classes();
        fault(c, 3, 2, 72, 80, 128, 0);
        fault(c, 3, 2, 72, 80, 129, 128, 0);
        fault(c, 3, 2, 72, 80, 255, 255, 255, 255, 255, 255, 255, 255, 255, 2);
        fault(c, 3, 2, 72, 80, 255, 255, 255, 255, 255, 255, 255, 255, 255, 129);
        fault(c, 3, 2, 72, 80, 255, 255, 255, 255, 255, 255, 255, 255, 255, 0);
        fault(c, 4, 2, 72, 80, 255, 255, 255, 255, 255, 255, 255, 255, 255, 1);
        fault(c, 1, 11, 72, 80, 255, 255, 255, 255, 255, 255, 255, 255, 255);
        fault(c, 3, 3, 72, 80, 1, 133, 0);
        fault(c, 3, 6, 72, 80, 1, 0, 24, 1, 128, 0);
        c.tape(Check.checked(72, 80, 1, 0, 24, 1, 255, 255, 255, 255, 255, 255, 255, 255, 255, 1, 1, 0, 0));
        Check.same("64 bits", c.x.load(0), 1);
        Check.same("the least", c.x.slot(0, 0, 0), Long.MIN_VALUE);
    }

    // FAULTS 1 and 2
    private static void ends() {
        Check c = classes();
        fault(c, 1, 0);
        fault(c, 1, 1, 72);
        fault(c, 1, 2, 72, 80);
        fault(c, 2, 0, 71);
        fault(c, 2, 0, 80, 72);
        fault(c, 2, 1, 72, 72);
        fault(c, 1, 3, 72, 80, 1);
        fault(c, 1, 4, 72, 80, 0, 0);
        fault(c, 1, 7, 72, 80, 0, 0, 1, 2, 3);
    }

    // FAULT 4
    private static void wrongThings() {
        Check c = classes();
        fault(c, 4, 2, 72, 80, 145, 3);
        fault(c, 1, 4, 72, 80, 144, 3);
        fault(c, 4, 3, 72, 80, 1, 144, 3);
        fault(c, 1, 5, 72, 80, 1, 143, 3);
        fault(c, 4, 6, 72, 80, 2, 5, 2, 0, 5);
        int[] types = {3, 15, 16, 19, 25, 28, 33, 46, 127};
        for (int type : types) {
            fault(c, 4, 4, 72, 80, 1, 0, type);
        }
        int[] good = {0, 1, 2, 20, 24, 29, 30, 32};
        for (int type : good) {
            fault(c, 1, 5, 72, 80, 1, 0, type);
        }
        fault(c, 4, 5, 72, 80, 1, 0, 2, 1);
        fault(c, 4, 5, 72, 80, 1, 0, 20, 61);
        fault(c, 4, 5, 72, 80, 1, 0, 32, 127);
    }

    private static void wrongValues() {
        Check c = classes();
        fault(c, 4, 6, 72, 80, 1, 0, 20, 1, 4);
        fault(c, 4, 6, 72, 80, 1, 0, 20, 1, 1);
        fault(c, 4, 7, 72, 80, 1, 0, 21, 2, 0, 128, 2);
        fault(c, 4, 7, 72, 80, 1, 0, 21, 2, 0, 129, 2);
        fault(c, 4, 6, 72, 80, 1, 0, 22, 1, 128, 128, 4);
        fault(c, 4, 6, 72, 80, 1, 0, 23, 1, 128, 128, 128, 128, 16);
        fault(c, 4, 6, 72, 80, 1, 0, 23, 1, 129, 128, 128, 128, 16);
        fault(c, 1, 11, 72, 80, 1, 0, 23, 1, 255, 255, 255, 255, 15);
        fault(c, 4, 6, 72, 80, 1, 0, 29, 1, 2);
        fault(c, 4, 6, 72, 80, 1, 0, 29, 1, 255, 255, 255, 255, 255, 255, 255, 255, 255, 1);
        fault(c, 1, 7, 72, 80, 1, 0, 29, 1, 1);
    }

    // Links are looked at behind the last thing's values.
    private static void wrongLinks() {
        Check c = classes();
        // B (0).b must be a B; thing 1 is an A
        fault(c, 4, 8, 72, 80, 2, 0, 1, 0, 0, 0, 2, 1, 0, 0, 0, 0);
        // first an array of B's with an A in it; then a type that is none, which is told first
        fault(c, 4, 6, 72, 80, 2, 0, 31, 1, 2, 1, 0, 0, 0, 0);
        fault(c, 4, 8, 72, 80, 2, 0, 31, 1, 2, 1, 99);
        // the first of two
        fault(c, 4, 7, 72, 80, 2, 0, 31, 3, 0, 2, 2, 1, 0, 0, 0, 0);
        // nothing is looked at when it ends too early
        fault(c, 1, 10, 72, 80, 2, 0, 31, 1, 2, 1, 0, 0);
    }

    private static void wrongRoots() {
        Check c = classes();
        int[] one = {72, 80, 1, 0, 2, 0};
        fault(c, 4, 6, join(one, row(109)));
        fault(c, 1, 7, join(one, row(108)));
        fault(c, 4, 7, join(one, row(1, 108)));
        fault(c, 4, 8, join(one, row(1, 107, 1)));
        fault(c, 4, 9, join(one, row(2, 3, 0, 3, 0)));
        fault(c, 4, 9, join(one, row(2, 3, 0, 2, 0)));
        fault(c, 4, 5, 72, 80, 0, 1, 0, 0);
        c.tape(Check.checked(join(one, row(2, 3, 0, 107, 0))));
        Check.same("load", c.x.load(3), 1);
        Check.same("its way", c.x.thing(3, 0, 6), 3);
        Check.same("holders", c.x.thing(3, 0, 7), 2);
        Check.same("a root's number", c.x.holder(3, 0, 1, 1), 107);
    }

    // FAULTS 5 and 6
    private static void checks() {
        Check c = classes();
        int[] good = Check.checked(72, 80, 1, 0, 2, 0, 1, 0, 0);
        for (int k = 9; k < 13; k++) {
            c.tape(good);
            c.x.flip(k, k % 8);
            Check.refused("check", Check.ARGUMENT, () -> c.x.load(3));
            Check.same("fault", c.x.fault(0), 5);
            Check.same("place", c.x.fault(1), 9);
        }
        fault(c, 6, 13, join(good, row(0)));
        fault(c, 6, 13, join(good, good));
        // behind a wrong check nothing counts; bytes behind are told ahead of things that are not reached
        int[] lost = Check.checked(72, 80, 1, 0, 2, 0, 0);
        fault(c, 7, 3, lost);
        fault(c, 6, 11, join(lost, row(7)));
        lost[10] ^= 1;
        fault(c, 5, 7, lost);
        fault(c, 1, 10, 72, 80, 1, 0, 2, 0, 0, 1, 2, 3);
    }

    // FAULT 7
    private static void wrongOrder() {
        Check c = classes();
        // two roots in the wrong order
        fault(c, 7, 3, Check.checked(72, 80, 2, 9, 2, 0, 8, 2, 0, 2, 0, 1, 1, 0));
        // an array's things 1, 3, 2
        fault(c, 7, 12, Check.checked(72, 80, 4, 0, 29, 3, 2, 4, 3, 5, 2, 0, 6, 2, 0, 7, 2, 0, 1, 0, 0));
        // the last one is not reached
        fault(c, 7, 10, Check.checked(72, 80, 3, 0, 29, 1, 2, 5, 2, 0, 6, 2, 0, 1, 0, 0));
        // things that hold one another but are not reached
        fault(c, 7, 6, Check.checked(72, 80, 3, 9, 2, 0, 1, 29, 1, 3, 2, 29, 1, 2, 1, 0, 0));
        fault(c, 7, 3, Check.checked(72, 80, 1, 0, 29, 1, 1, 0));
    }

    private static void loadUses() {
        Check c = classes();
        HeapWorks x = c.x;
        Check.same("not used", x.typeLook(2, 5), 0);
        fault(c, 5, 9, 72, 80, 1, 0, 2, 0, 1, 0, 0, 0, 0, 0, 0);
        Check.same("a fault uses nothing", x.typeLook(2, 5), 0);
        c.tape(Check.checked(72, 80, 1, 250, 2, 32, 0, 1, 0, 0));
        Check.same("load", x.load(1), 1);
        Check.same("an array's class is not used", x.typeLook(2, 5), 0);
        c.tape(Check.checked(72, 80, 1, 250, 2, 2, 0, 1, 0, 0));
        Check.same("load", x.load(1), 1);
        Check.same("used", x.typeLook(2, 5), 1);
        c.text("f");
        Check.refused("no new field", Check.STATE, () -> x.field(2, 0, 0, false));
        Check.same("no object was made", x.about(2), 0);
        Check.same("its object's number", x.thing(1, 0, 0), 378);
        x.choose(1, 0, true);
        Check.same("lost", x.lost(1), 1);
        x.bytes(1);
        x.load(1);
        Check.same("none is chosen", x.lost(1), 0);
    }

    private static void tooLong() {
        Check c = new Check();
        HeapWorks x = c.x;
        int[] arrays = new int[8];
        for (int k = 0; k < 7; k++) {
            arrays[k] = x.make(24, 60);
            x.root(arrays[k], true);
            for (int s = 0; s < 60; s++) {
                x.set(arrays[k], s, Long.MIN_VALUE);
            }
        }
        x.take(0);
        c.text("stays");
        Check.refused("more than 4000", Check.STATE, () -> x.bytes(0));
        Check.same("the tape stays", x.about(0), 5);
        Check.refused("more than 4000", Check.STATE, () -> x.keep(0));
        Check.same("the log stays", x.about(8), 0);
        // 7 * (3 + 600) + 2 + 1 + 1 + 14 + 4 = 4243; by 243 less it fits: 27 values of one byte are 243 less
        for (int s = 0; s < 27; s++) {
            x.set(arrays[6], s, 0);
        }
        x.take(0);
        Check.same("4000", x.bytes(0), 4000);
        Check.same("load", x.load(1), 7);
        Check.same("like", x.growth(0, 1, 2), 0);
        x.set(arrays[6], 27, 64);
        x.set(arrays[6], 28, 0);
        x.set(arrays[6], 0, 64);
        x.set(arrays[6], 1, -65);
        x.set(arrays[6], 29, 1L << 55);
        x.take(0);
        Check.same("less", x.bytes(0) < 4000, true);
        x.set(arrays[6], 27, Long.MIN_VALUE);
        x.set(arrays[6], 28, Long.MIN_VALUE);
        x.set(arrays[6], 29, Long.MIN_VALUE);
        x.set(arrays[6], 0, 64);
        x.set(arrays[6], 1, 0);
        x.take(0);
        Check.refused("4001", Check.STATE, () -> x.bytes(0));
    }

    // Promises 49 to 51
    private static void log() {
        Check c = classes();
        HeapWorks x = c.x;
        Check.refused("p", Check.INDEX, () -> x.keep(4));
        Check.refused("p", Check.INDEX, () -> x.keep(-1));
        Check.refused("none", Check.ELEMENT, () -> x.recall(0, 0));
        Check.same("an empty picture", x.keep(0), 1);
        Check.same("10 bytes", x.about(8), 10);
        int a = x.make(2, 0);
        int b = x.make(29, 1);
        x.root(b, true);
        x.set(b, 0, a);
        x.take(0);
        Check.same("keep", x.keep(0), 2);
        Check.same("bytes", x.about(8), 10 + 2 + 17);
        x.root(a, true);
        x.take(0);
        Check.same("keep", x.keep(0), 3);
        Check.same("bytes", x.about(8), 29 + 21);
        Check.same("records", x.about(7), 3);
        c.text("things");
        x.ask(0);
        Check.same("recall", x.recall(3, 1), 2);
        Check.same("its root", x.thing(3, 0, 0), b);
        Check.same("its root", x.thing(3, 1, 4), 1);
        Check.same("recall", x.recall(3, 2), 2);
        Check.same("a root", x.thing(3, 1, 4), 0);
        Check.same("recall", x.recall(3, 0), 0);
        Check.refused("none", Check.ELEMENT, () -> x.recall(3, 3));
        Check.refused("none", Check.ELEMENT, () -> x.recall(3, -1));
        Check.refused("p first", Check.INDEX, () -> x.recall(4, 9));
        Check.same("the tape stays", x.about(0), 6);
        Check.same("all of it", x.reopen(1000), 3);
        Check.same("all of it", x.reopen(50), 3);
        c.fault("(", 1, 0);
        Check.same("the last one is not whole", x.reopen(49), 2);
        Check.same("the rest went", x.about(8), 29);
        Check.same("fault() is not told", x.fault(0), 1);
        Check.refused("gone", Check.ELEMENT, () -> x.recall(3, 2));
        Check.same("recall", x.recall(2, 1), 2);
        Check.same("keep", x.keep(2), 3);
        Check.same("bytes", x.about(8), 48);
        Check.same("a cut in a length", x.reopen(30), 2);
        Check.same("a cut between", x.reopen(29), 2);
        Check.same("a cut in the second", x.reopen(28), 1);
        Check.same("a cut in the first", x.reopen(9), 0);
        Check.same("nothing", x.about(8), 0);
        Check.same("nothing", x.reopen(5), 0);
        Check.same("keep", x.keep(2), 1);
        Check.same("below 0", x.reopen(-1), 0);
        Check.same("nothing", x.about(8), 0);
        Check.same("fault() is not told", x.fault(0), 1);
        x.keep(2);
        Check.same("below 0", x.reopen(Integer.MIN_VALUE), 0);
        x.keep(2);
        Check.same("far above", x.reopen(Integer.MAX_VALUE), 1);
    }

    private static void logLimits() {
        Check c = new Check();
        HeapWorks x = c.x;
        for (int k = 0; k < 6; k++) {
            int o = x.make(24, 60);
            x.root(o, true);
            for (int s = 0; s < 60; s++) {
                x.set(o, s, Long.MIN_VALUE);
            }
        }
        x.take(0);
        // 6 * 603 + 2 + 1 + 1 + 12 + 4 = 3638
        Check.same("keep", x.keep(0), 1);
        Check.same("keep", x.keep(0), 2);
        Check.same("bytes", x.about(8), 7280);
        Check.refused("more than 8000", Check.STATE, () -> x.keep(0));
        Check.same("it stays", x.about(8), 7280);
        for (int k = 0; k < 72; k++) {
            Check.same("keep", x.keep(1), 3 + k);
        }
        Check.same("full", x.about(8), 8000);
        Check.refused("more than 8000", Check.STATE, () -> x.keep(1));
        Check.same("recall", x.recall(2, 1), 6);
        Check.same("recall", x.recall(2, 73), 0);
        Check.same("all whole", x.reopen(8000), 74);
        Check.same("all whole but one", x.reopen(7999), 73);
        // a record of 16 bytes: behind 7984 there is room, behind 7985 there is not
        for (int k = 6; k < 128; k++) {
            x.make(20, 0);
        }
        int one = x.make(20, 0);
        for (int k = 0; k < 6; k++) {
            x.root(k, false);
        }
        x.root(one, true);
        x.take(2);
        Check.same("7280", x.reopen(7280), 2);
        Check.same("16", x.keep(2), 3);
        Check.same("16", x.about(8), 7296);
        x.root(one, false);
        x.root(7, true);
        x.take(3);
        Check.same("15", x.keep(3), 4);
        for (int k = 0; k < 11; k++) {
            x.keep(3);
        }
        for (int k = 0; k < 50; k++) {
            x.keep(1);
        }
        Check.same("7976", x.about(8), 7976);
        Check.same("15", x.keep(3) > 0, true);
        Check.refused("10 are too much", Check.STATE, () -> x.keep(1));
        x.reopen(7280);
        for (int k = 0; k < 7; k++) {
            x.keep(3);
        }
        for (int k = 0; k < 60; k++) {
            x.keep(1);
        }
        Check.same("7985", x.about(8), 7985);
        Check.refused("8001", Check.STATE, () -> x.keep(2));
        Check.same("8000", x.keep(3) > 0, true);
        x.reopen(0);
        for (int k = 0; k < 300; k++) {
            Check.same("keep", x.keep(1), k + 1);
        }
        Check.same("reopen", x.reopen(8000), 300);
    }
}
