/** Promises 19, 20 and 23 to 27: undoing, swapping, watches and promises. */
public final class WriteTest {
    public static void main(String[] args) {
        undoing();
        undoLimit();
        swapping();
        swapFits();
        watches();
        watchConditions();
        watchedStatics();
        promises();
        brokenBySwap();
        spentPromise();
        exactPromise();
        greatPromises();
        Check.done("WriteTest");
    }

    // Promise 19
    private static void undoing() {
        Check c = new Check();
        HeapWorks x = c.x;
        c.type("A");
        c.field(0, "n", 3);
        c.field(0, "s", 3, -1, true);
        x.make(0, 0);
        Check.same("nothing", x.undo(), -1);
        x.set(0, 0, 1);
        x.set(0, 0, 2);
        x.setStatic(0, 0, 7);
        x.set(0, 0, 2);
        Check.same("can be undone", x.about(6), 4);
        Check.same("undo", x.undo(), 3);
        Check.same("value", x.get(0, 0), 2);
        Check.same("undo", x.undo(), 2);
        Check.same("static", x.getStatic(0, 0), 0);
        Check.same("undo", x.undo(), 1);
        Check.same("value", x.get(0, 0), 1);
        Check.same("the next write's number", x.set(0, 0, 9), 4);
        Check.same("undo", x.undo(), 4);
        Check.same("undo", x.undo(), 0);
        Check.same("value", x.get(0, 0), 0);
        Check.same("undo", x.undo(), -1);
        Check.same("writes", x.about(5), 5);
    }

    private static void undoLimit() {
        Check c = new Check();
        HeapWorks x = c.x;
        x.make(23, 2);
        for (int k = 0; k < 130; k++) {
            x.set(0, k % 2, k + 1);
        }
        Check.same("at most 100", x.about(6), 100);
        for (int k = 0; k < 40; k++) {
            Check.same("undo", x.undo(), 129 - k);
        }
        x.set(0, 0, 77);
        Check.same("61", x.about(6), 61);
        Check.same("undo", x.undo(), 130);
        for (int k = 0; k < 60; k++) {
            Check.same("undo", x.undo(), 89 - k);
        }
        Check.same("no more", x.undo(), -1);
        Check.same("value", x.get(0, 0), 29);
        Check.same("value", x.get(0, 1), 30);
    }

    // Promise 20
    private static void swapping() {
        Check c = new Check();
        HeapWorks x = c.x;
        c.type("A");
        c.link(0, "a", -1);
        c.link(0, "b", -1);
        c.field(0, "n", 3);
        c.field(0, "s", 5, -1, true);
        c.field(0, "t", 5, -1, true);
        for (int k = 0; k < 4; k++) {
            x.make(0, 0);
            x.set(k, 2, k % 2);
        }
        Check.refused("no object", Check.ELEMENT, () -> x.swap(0, 4));
        Check.refused("no object", Check.ELEMENT, () -> x.swap(-1, -1));
        Check.refused("it is one", Check.ARGUMENT, () -> x.swap(1, 1));
        x.set(0, 0, 1);
        x.set(0, 1, 2);
        x.set(1, 0, 1);
        x.set(3, 1, 0);
        x.setStatic(0, 1, 2);
        x.root(3, true);
        x.root(1, true);
        x.root(2, true);
        x.watch(0, 0, 1);
        int before = x.about(5);
        Check.same("writes", x.swap(1, 2), 4);
        Check.same("numbered", x.about(5), before + 4);
        Check.same("0.a", x.get(0, 0), 2);
        Check.same("0.b", x.get(0, 1), 1);
        Check.same("1.a", x.get(1, 0), 2);
        Check.same("3.b stays", x.get(3, 1), 0);
        Check.same("the numbers are not links", x.get(1, 2), 1);
        Check.same("null stays", x.getStatic(0, 0), -1);
        Check.same("static", x.getStatic(0, 1), 1);
        x.take(0);
        Check.same("roots", x.thing(0, 0, 0), 3);
        Check.same("roots", x.thing(0, 1, 0), 2);
        Check.same("roots", x.thing(0, 2, 0), 1);
        Check.same("watched", x.rows(0), 2);
        Check.same("in order", x.row(0, 0, 0), before);
        Check.same("in order", x.row(0, 1, 0), before + 2);
        Check.same("object", x.row(0, 1, 1), 1);
        Check.same("undo the static", x.undo(), before + 3);
        Check.same("static", x.getStatic(0, 1), 2);
        Check.same("undo", x.undo(), before + 2);
        Check.same("1.a", x.get(1, 0), 1);
        x.take(0);
        Check.same("roots stay", x.thing(0, 1, 0), 2);
        x.root(1, false);
        Check.same("one that is no root", x.swap(1, 2) >= 0, true);
        x.take(0);
        Check.same("takes the place", x.thing(0, 1, 0), 1);
        Check.same("roots", x.about(4), 2);
        int lone = x.make(0, 0);
        int other = x.make(0, 0);
        Check.same("without links no writes", x.swap(lone, other), 0);
    }

    private static void swapFits() {
        Check c = new Check();
        HeapWorks x = c.x;
        c.type("A");
        c.type("B", 0, 0);
        c.type("H");
        c.link(2, "a", 0);
        c.link(2, "b", 1);
        c.field(2, "s", 5, 1, true);
        int a = x.make(0, 0);
        int b = x.make(1, 0);
        int h = x.make(2, 0);
        x.set(h, 0, b);
        Check.same("a B for an A", x.swap(a, b), 1);
        Check.same("link", x.get(h, 0), a);
        x.set(h, 1, b);
        int writes = x.about(5);
        Check.refused("an A for a B", Check.ARGUMENT, () -> x.swap(a, b));
        Check.refused("an A for a B", Check.ARGUMENT, () -> x.swap(b, a));
        Check.same("nothing was written", x.about(5), writes);
        Check.same("nothing changed", x.get(h, 0), a);
        x.set(h, 1, -1);
        x.setStatic(2, 0, b);
        Check.refused("a static", Check.ARGUMENT, () -> x.swap(a, b));
        x.setStatic(2, 0, -1);
        int array = x.make(31, 1);
        x.set(array, 0, b);
        Check.refused("an array", Check.ARGUMENT, () -> x.swap(a, b));
        x.set(array, 0, -1);
        Check.same("now it does", x.swap(a, b), 1);
    }

    // Promises 23 to 25
    private static void watches() {
        Check c = new Check();
        HeapWorks x = c.x;
        c.type("A");
        c.field(0, "n", 3);
        c.type("B", 0, 0);
        c.field(1, "m", 3);
        x.make(0, 0);
        x.make(1, 0);
        x.make(23, 1);
        Check.refused("no field", Check.ELEMENT, () -> x.watch(0, 1, 0));
        Check.refused("no field first", Check.ELEMENT, () -> x.watch(0, -1, 9));
        Check.refused("no class", Check.ELEMENT, () -> x.watch(2, 0, 0));
        Check.refused("no condition", Check.ARGUMENT, () -> x.watch(0, 0, 4));
        Check.refused("no condition", Check.ARGUMENT, () -> x.watch(0, 0, -1));
        Check.same("watch", x.watch(0, 0, 0), 0);
        Check.same("watch", x.watch(1, 0, 0), 1);
        Check.same("no rows", x.rows(0), 0);
        Check.refused("no row", Check.ELEMENT, () -> x.row(0, 0, 0));
        x.set(0, 0, 5);
        x.set(1, 0, 6);
        x.set(1, 1, 7);
        x.set(2, 0, 8);
        Check.same("its own and heirs'", x.rows(0), 2);
        Check.same("the heir's own", x.rows(1), 1);
        long[] due = {2, 1, 0, 7};
        for (int what = 0; what < 4; what++) {
            Check.same("row " + what, x.row(1, 0, what), due[what]);
        }
        Check.refused("no row", Check.ELEMENT, () -> x.row(1, 1, 0));
        Check.refused("no row", Check.ELEMENT, () -> x.row(1, -1, 0));
        Check.refused("another what", Check.ELEMENT, () -> x.row(1, 0, 4));
        Check.refused("another what", Check.ELEMENT, () -> x.row(1, 0, -1));
        Check.refused("no watch", Check.ELEMENT, () -> x.row(2, 0, 0));
        Check.same("no watch", x.rows(2), -1);
        Check.same("no watch", x.rows(-1), -1);
        x.undo();
        x.undo();
        Check.same("an undoing takes no row", x.rows(1), 1);
        for (int k = 0; k < 8; k++) {
            x.set(0, 0, 20 + k);
        }
        Check.same("the last six", x.rows(0), 6);
        Check.same("the oldest first", x.row(0, 0, 3), 22);
        Check.same("the newest last", x.row(0, 5, 3), 27);
        Check.same("before", x.row(0, 5, 2), 26);
        for (int k = 2; k < 6; k++) {
            Check.same("watch", x.watch(0, 0, 0), k);
        }
        Check.refused("a 7th", Check.STATE, () -> x.watch(0, 0, 0));
        Check.refused("no condition first", Check.ARGUMENT, () -> x.watch(0, 0, 7));
        Check.same("watches", x.about(9), 6);
    }

    private static void watchConditions() {
        Check c = new Check();
        HeapWorks x = c.x;
        c.type("A");
        c.field(0, "n", 3);
        c.link(0, "l", -1);
        x.make(0, 0);
        for (int condition = 1; condition < 4; condition++) {
            x.watch(0, 0, condition);
            x.watch(0, 1, condition);
        }
        long[] numbers = {0, 5, 5, 3, 0, -2, 0, 4};
        for (long n : numbers) {
            x.set(0, 0, n);
        }
        Check.same("another one", x.rows(0), 6);
        Check.same("becomes 0", x.rows(2), 2);
        Check.same("becomes 0", x.row(2, 0, 2), 3);
        Check.same("becomes 0", x.row(2, 1, 2), -2);
        Check.same("greater", x.rows(4), 3);
        Check.same("greater", x.row(4, 1, 3), 0);
        long[] links = {-1, 0, 0, 1, -1, 1, 0};
        x.make(0, 0);
        for (long l : links) {
            x.set(0, 1, l);
        }
        Check.same("another one", x.rows(1), 5);
        Check.same("becomes null", x.rows(3), 1);
        Check.same("becomes null", x.row(3, 0, 3), -1);
        Check.same("from null to an object", x.rows(5), 2);
        Check.same("object 0", x.row(5, 0, 3), 0);
        Check.same("object 1", x.row(5, 1, 3), 1);
    }

    private static void watchedStatics() {
        Check c = new Check();
        HeapWorks x = c.x;
        c.type("A");
        c.field(0, "n", 3);
        c.field(0, "s", 3, -1, true);
        c.field(0, "t", 3, -1, true);
        x.make(0, 0);
        x.watch(0, 2, 0);
        x.set(0, 0, 1);
        x.setStatic(0, 0, 2);
        x.setStatic(0, 1, 3);
        Check.same("one", x.rows(0), 1);
        Check.same("the write", x.row(0, 0, 0), 2);
        Check.same("no object", x.row(0, 0, 1), -1);
        Check.same("behind", x.row(0, 0, 3), 3);
    }

    // Promises 26 and 27
    private static void promises() {
        Check c = new Check();
        HeapWorks x = c.x;
        c.type("A");
        c.field(0, "n", 3);
        c.link(0, "l", -1);
        c.field(0, "s", 5, -1, true);
        x.make(0, 0);
        x.make(0, 0);
        x.root(0, true);
        Check.refused("none", Check.ELEMENT, () -> x.broken(0));
        c.text("count(y in things) <");
        Check.refused("a fault", Check.ARGUMENT, () -> x.promise());
        Check.same("fault", x.fault(0), 1);
        Check.same("place", x.fault(1), 20);
        c.text("it = null");
        Check.refused("it is none", Check.ARGUMENT, () -> x.promise());
        Check.same("fault", x.fault(0), 3);
        Check.same("place", x.fault(1), 0);
        c.text("each(y in things where it.n = 1 : true)");
        Check.refused("it is none in a fold", Check.ARGUMENT, () -> x.promise());
        Check.same("place", x.fault(1), 23);
        c.text("true get 1");
        Check.refused("one E alone", Check.ARGUMENT, () -> x.promise());
        Check.same("place", x.fault(1), 5);
        Check.same("none was told", x.about(10), 0);
        c.text("each(y in all A : y.n < 10)");
        Check.same("promise", x.promise(), 0);
        Check.same("the tape stays", x.about(0), 27);
        Check.same("no fault", x.fault(0), 0);
        Check.same("no place", x.fault(1), -1);
        Check.same("it holds", x.broken(0), -2);
        c.text("count(y in things) = 2");
        Check.same("promise", x.promise(), 1);
        Check.same("broken at once", x.broken(1), -1);
        c.text("1");
        Check.same("promise", x.promise(), 2);
        Check.same("no truth", x.broken(2), -1);
        Check.refused("a 4th", Check.STATE, () -> x.promise());
        c.text("(");
        Check.refused("a 4th first", Check.STATE, () -> x.promise());
        Check.same("fault stays", x.fault(0), 0);
        x.set(1, 0, 50);
        Check.same("it is not reached", x.broken(0), -2);
        x.root(1, true);
        Check.same("no write", x.broken(0), -2);
        x.undo();
        x.root(1, false);
        x.set(1, 0, 60);
        x.setStatic(0, 0, 1);
        Check.same("a static reaches it", x.broken(0), 2);
        x.undo();
        x.set(0, 0, 99);
        Check.same("the first one", x.broken(0), 2);
        Check.same("from the beginning", x.broken(1), -1);
        Check.refused("none", Check.ELEMENT, () -> x.broken(3));
        Check.refused("none", Check.ELEMENT, () -> x.broken(-1));
        Check.same("promises", x.about(10), 3);
    }

    private static void brokenBySwap() {
        Check c = new Check();
        HeapWorks x = c.x;
        c.type("A");
        c.link(0, "a", -1);
        c.field(0, "n", 3);
        for (int k = 0; k < 4; k++) {
            x.make(0, 0);
        }
        x.set(0, 0, 1);
        x.set(1, 0, 2);
        x.set(3, 1, 5);
        x.root(0, true);
        c.text("count(y in things) = 3");
        x.promise();
        c.text("sum(y in things : y.n) = 0");
        x.promise();
        c.text("thing 0 . n = 0");
        x.promise();
        int lone = x.make(0, 0);
        x.root(lone, true);
        x.undo();
        Check.same("roots alone do not look", x.broken(0), -2);
        x.root(lone, false);
        x.set(3, 1, 5);
        Check.same("it holds", x.broken(0), -2);
        // links to 1 and 2 change places: 0 -> 2, 1 -> 1; 0 and 2 are left
        Check.same("writes", x.swap(1, 2), 2);
        Check.same("the last write", x.broken(0), x.about(5) - 1);
        Check.same("it still holds", x.broken(1), -2);
        // no writes: 3 takes the place of the root, and no promise looks
        Check.same("no link", x.swap(0, 3), 0);
        Check.same("not looked at", x.broken(2), -2);
        x.set(1, 1, 0);
        Check.same("the next write", x.broken(2), x.about(5) - 1);
    }

    // 30000 are not too much, 30001 are: over 100 things, 60 of them in the slots of thing 0, - 1 < costs 3, two sums
    // over all things 2 + 100 * (1 + 2 + 100 * 2) = 20302, + 1, two sums over the slots 3 + 60 * (1 + 3 + 60 * 2) =
    // 7443, + 1, a sum of 21 nodes for each thing 2 + 100 * (1 + 21) = 2202, 24 times + 1 are 48.
    private static void exactPromise() {
        Check c = new Check();
        HeapWorks x = c.x;
        c.type("A");
        int[] arrays = {x.make(29, 60), x.make(29, 38)};
        for (int k = 0; k < 98; k++) {
            x.set(arrays[k / 60], k % 60, x.make(0, 0));
        }
        x.root(arrays[0], true);
        x.root(arrays[1], true);
        String costs = "1 < sum(x in things : sum(y in things : 1))"
            + " + sum(z in slots thing 0 : sum(w in slots thing 0 : 1))"
            + " + sum(u in things : " + Check.repeat("-", 20) + "1)" + Check.repeat("+1", 24);
        c.text("-" + costs);
        x.promise();
        c.text("--" + costs);
        x.promise();
        Check.same("30000", x.broken(0), -2);
        Check.same("30001", x.broken(1), -1);
        x.set(arrays[0], 0, 2);
        Check.same("still 30000", x.broken(0), -2);
        x.set(arrays[0], 0, -1);
        Check.same("less", x.broken(0), -2);
    }

    // In a promise no set takes a node away.
    private static void greatPromises() {
        Check c = new Check();
        HeapWorks x = c.x;
        String[] ahead = {"not ", "-", "size ", "kept "};
        for (String word : ahead) {
            c.text(Check.repeat(word, 121) + "1");
            Check.refused("121 times " + word, Check.ARGUMENT, () -> x.promise());
            Check.same("too great", x.fault(0), 4);
            Check.same("the 121st", x.fault(1), 120 * word.length());
            c.text(Check.repeat(word, 120) + "1");
            Check.refused("120 times " + word, Check.ARGUMENT, () -> x.promise());
            Check.same("too great", x.fault(0), 4);
            Check.same("the number", x.fault(1), 120 * word.length());
        }
        String[] between = {"+", " or ", " and ", "*"};
        for (String word : between) {
            c.text("1" + Check.repeat(word + "1", 60));
            Check.refused("60 times " + word, Check.ARGUMENT, () -> x.promise());
            Check.same("too great", x.fault(0), 4);
            Check.same("the last number", x.fault(1), x.about(0) - 1);
            c.text("1" + Check.repeat(word + "1", 59) + word);
            Check.refused("the end", Check.ARGUMENT, () -> x.promise());
            Check.same("it ends", x.fault(0), 1);
        }
        c.text(Check.repeat("not ", 119) + "true");
        Check.same("120", x.promise(), 0);
        Check.same("false", x.broken(0), -1);
        c.text(Check.repeat("not ", 118) + "true");
        Check.same("119", x.promise(), 1);
        Check.same("true", x.broken(1), -2);
    }

    private static void spentPromise() {
        Check c = new Check();
        HeapWorks x = c.x;
        x.make(29, 60);
        x.root(0, true);
        c.text("count(a in slots thing 0 where count(b in slots thing 0) >= 0) >= 0");
        x.promise();
        c.text("each(a in slots thing 0 : each(b in slots thing 0 : each(d in slots thing 0 : true)))");
        Check.same("promise", x.promise(), 1);
        for (int k = 0; k < 60; k++) {
            x.set(0, k, 0);
        }
        Check.same("60 * 60 is not too much", x.broken(0), -2);
        Check.same("it broke as it was spent", x.broken(1) >= 0, true);
        c.text("each(a in slots thing 0 : each(b in slots thing 0 : each(d in slots thing 0 : true)))");
        Check.same("spent at once", x.promise(), 2);
        Check.same("broken from the beginning", x.broken(2), -1);
        Check.same("no fault", x.fault(0), 0);
        Check.same("no place", x.fault(1), -1);
    }
}
