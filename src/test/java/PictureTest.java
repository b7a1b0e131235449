/** Promises 28 to 39: pictures, what keeps what, rings, doubles, cuts, growth and likeness. */
public final class PictureTest {
    public static void main(String[] args) {
        walking();
        dominators();
        diamonds();
        rings();
        doubles();
        counting();
        cutting();
        growing();
        changedKinds();
        likeness();
        wrongNumbers();
        Check.done("PictureTest");
    }

    // Objects of a class N with links a, b, c to anything and an INT n.
    static HeapWorks nodes(Check c, int count) {
        c.type("N");
        c.link(0, "a", -1);
        c.link(0, "b", -1);
        c.link(0, "c", -1);
        c.field(0, "n", 3);
        for (int k = 0; k < count; k++) {
            c.x.make(0, 0);
        }
        return c.x;
    }

    private static Check nodes(int count) {
        Check c = new Check();
        nodes(c, count);
        return c;
    }

    private static void links(Check c, int from, int... to) {
        for (int k = 0; k < to.length; k++) {
            c.x.set(from, k, to[k]);
        }
    }

    private static void things(Check c, int what, int... due) {
        for (int t = 0; t < due.length; t++) {
            Check.same("thing " + t + " what " + what, c.x.thing(0, t, what), due[t]);
        }
    }

    // Promises 28, 29 (what 0 to 7), 30, 31
    private static void walking() {
        Check c = new Check();
        HeapWorks x = c.x;
        c.type("S");
        c.field(0, "s", 5, -1, true);
        c.field(0, "i", 3, -1, true);
        c.field(0, "t", 5, -1, true);
        c.type("N");
        c.link(1, "a", -1);
        c.field(1, "n", 3);
        c.link(1, "b", -1);
        c.field(1, "u", 5, -1, true);
        for (int k = 0; k < 6; k++) {
            x.make(1, 0);
            x.set(k, 1, 100 + k);
        }
        int array = x.make(29, 3);
        x.setStatic(0, 2, 4);
        x.setStatic(1, 0, 2);
        x.root(3, true);
        x.root(2, true);
        links2(x, 3, array, 5);
        links2(x, 2, 3, 2);
        links2(x, 4, 2, -1);
        x.set(array, 0, 1);
        x.set(array, 2, 2);
        Check.same("things", x.take(0), 6);
        things(c, 0, 3, 2, 4, array, 5, 1);
        things(c, 1, 1, 1, 1, 29, 1, 1);
        things(c, 2, 0, 0, 0, 3, 0, 0);
        things(c, 3, 24, 24, 24, 32, 24, 24);
        things(c, 4, 0, 0, 0, 1, 1, 2);
        things(c, 5, -1, -1, -1, 0, 0, 3);
        things(c, 6, 0, 1, 3, 0, 2, 0);
        things(c, 7, 2, 5, 1, 1, 1, 1);
        long[][] due = {{3, 103, 4}, {0, 102, 1}, {1, 104, -1}, {5, -1, 1}, {-1, 105, -1}, {-1, 101, -1}};
        for (int t = 0; t < due.length; t++) {
            for (int k = 0; k < 3; k++) {
                Check.same("slot " + t + "," + k, x.slot(0, t, k), due[t][k]);
            }
            int thing = t;
            Check.refused("slot 3", Check.ELEMENT, () -> x.slot(0, thing, 3));
            Check.refused("slot -1", Check.ELEMENT, () -> x.slot(0, thing, -1));
        }
        // the roots 1 and 4 (statics are 2, 3, 4: null, to 4, to 2), then 1.b, 2.a, array[2]
        int[][] holders = {{-1, 1}, {-1, 4}, {1, 2}, {2, 0}, {3, 2}};
        for (int k = 0; k < holders.length; k++) {
            Check.same("holder", x.holder(0, 1, k, 0), holders[k][0]);
            Check.same("its slot", x.holder(0, 1, k, 1), holders[k][1]);
        }
        Check.refused("holder 5", Check.ELEMENT, () -> x.holder(0, 1, 5, 0));
        Check.refused("holder -1", Check.ELEMENT, () -> x.holder(0, 1, -1, 0));
        Check.refused("what 2", Check.ELEMENT, () -> x.holder(0, 1, 0, 2));
        Check.refused("what -1", Check.ELEMENT, () -> x.holder(0, 1, 0, -1));
        x.set(3, 0, -1);
        x.collect();
        Check.same("a picture stays as it is", x.thing(0, 5, 0), 1);
        Check.same("greatest depth", x.picture(0, 5), 2);
        Check.same("anew", x.take(0), 4);
        Check.same("nothing left of it", x.thing(0, 4, 0), -1);
    }

    private static void links2(HeapWorks x, int o, int a, int b) {
        x.set(o, 0, a);
        x.set(o, 2, b);
    }

    // Promise 29 (what 8 to 10)
    private static void dominators() {
        Check c = nodes(8);
        // 0 -> 1, 2; 1 -> 3; 2 -> 3; 3 -> 4; 4 -> 5, 3; 6 -> 5; roots 0 and 6; 7 is not reached
        links(c, 0, 1, 2);
        links(c, 1, 3);
        links(c, 2, 3);
        links(c, 3, 4);
        links(c, 4, 5, 3);
        links(c, 6, 5);
        c.x.root(0, true);
        c.x.root(6, true);
        Check.same("things", c.x.take(0), 7);
        things(c, 0, 0, 6, 1, 2, 5, 3, 4);
        things(c, 8, -1, -1, 0, 0, -1, 0, 5);
        int size = c.x.thing(0, 0, 3);
        Check.same("size", size, 32);
        things(c, 10, 5, 1, 1, 1, 1, 2, 1);
        things(c, 9, 5 * size, size, size, size, size, 2 * size, size);
    }

    // Ways that come together far behind, met in an order in which the nearer way is found first.
    private static void diamonds() {
        Check c = nodes(10);
        // 0 -> 1 -> 2, 0 -> 3 -> 4 -> 5 -> 6 -> 2, 2 -> 7 -> 8, 8 -> 6
        links(c, 0, 1, 3);
        links(c, 1, 2);
        links(c, 3, 4);
        links(c, 4, 5);
        links(c, 5, 6);
        links(c, 6, 2);
        links(c, 2, 7);
        links(c, 7, 8);
        links(c, 8, 6);
        c.x.root(0, true);
        c.x.take(0);
        things(c, 0, 0, 1, 3, 2, 4, 7, 5, 8, 6);
        things(c, 8, -1, 0, 0, 0, 2, 3, 4, 5, 0);
        things(c, 10, 9, 1, 3, 3, 2, 2, 1, 1, 1);
    }

    // Promises 29 (what 11), 32 (what 1), 33
    private static void rings() {
        Check c = nodes(9);
        HeapWorks x = c.x;
        // 0 -> 1 -> 2 -> 1; 0 -> 3 -> 3; 0 -> 4 -> 5 -> 6 -> 4, 5 -> 7
        links(c, 0, 1, 3, 4);
        links(c, 1, 2);
        links(c, 2, 1);
        links(c, 3, 3);
        links(c, 4, 5);
        links(c, 5, 6, 7);
        links(c, 6, 4);
        x.root(0, true);
        Check.same("things", x.take(0), 8);
        things(c, 0, 0, 1, 3, 4, 2, 5, 6, 7);
        things(c, 11, -1, 0, 1, 2, 0, 2, 2, -1);
        Check.same("rings", x.picture(0, 1), 3);
        int[][] due = {{1, 4}, {2}, {3, 5, 6}};
        for (int r = 0; r < due.length; r++) {
            for (int k = 0; k < due[r].length; k++) {
                Check.same("member", x.member(0, 0, r, k), due[r][k]);
            }
            int ring = r;
            int end = due[r].length;
            Check.refused("no member", Check.ELEMENT, () -> x.member(0, 0, ring, end));
        }
        Check.refused("no ring", Check.ELEMENT, () -> x.member(0, 0, 3, 0));
        Check.refused("no ring", Check.ELEMENT, () -> x.member(0, 0, -1, 0));
        Check.refused("no member", Check.ELEMENT, () -> x.member(0, 0, 0, -1));
        Check.refused("no way", Check.ELEMENT, () -> x.member(0, 2, 0, 0));
        Check.refused("no way", Check.ELEMENT, () -> x.member(0, -1, 0, 0));
        Check.refused("no picture", Check.ELEMENT, () -> x.member(4, 0, 0, 0));
    }

    // Promises 29 (what 12), 32 (what 2 and 4), 33
    private static void doubles() {
        Check c = nodes(0);
        HeapWorks x = c.x;
        c.type("E");
        int root = x.make(29, 12);
        // 1, 2, 3: n = 5 and links to nothing; 4, 5: n = 0; 6: n = 6
        for (int k = 1; k < 7; k++) {
            x.make(0, 0);
            x.set(k, 3, k < 4 ? 5 : k < 6 ? 0 : 6);
        }
        int e1 = x.make(1, 0);
        int e2 = x.make(1, 0);
        int a1 = x.make(20, 2);
        int a2 = x.make(20, 3);
        int b = x.make(21, 2);
        int a3 = x.make(20, 2);
        int[] order = {6, 4, 1, e1, 2, 5, a1, e2, a2, b, a3, 3};
        for (int k = 0; k < order.length; k++) {
            x.set(root, k, order[k]);
        }
        x.root(root, true);
        x.take(0);
        things(c, 12, -1, -1, 0, 1, 2, 1, 0, 3, 2, -1, -1, 3, 1);
        Check.same("groups", x.picture(0, 2), 4);
        Check.same("sizes", x.picture(0, 4), 32 + 2 * 32 + 16 + 24);
        Check.same("member", x.member(0, 1, 1, 2), 12);
        Check.refused("no member", Check.ELEMENT, () -> x.member(0, 1, 1, 3));
        Check.refused("no group", Check.ELEMENT, () -> x.member(0, 1, 4, 0));
        x.set(1, 0, 6);
        x.set(2, 0, 6);
        x.set(3, 0, 4);
        x.take(0);
        Check.same("links to the same things", x.thing(0, 3, 12), x.thing(0, 5, 12));
        Check.same("a link to another", x.thing(0, 12, 12), -1);
        x.set(2, 0, -1);
        x.set(2, 1, 6);
        x.take(0);
        Check.same("in another slot", x.thing(0, 3, 12), -1);
    }

    // Promise 32
    private static void counting() {
        Check c = new Check();
        HeapWorks x = c.x;
        c.type("A");
        c.type("B", 0, 0);
        c.type("C", 1, 0);
        int root = x.make(29, 6);
        int[] types = {0, 1, 1, 2, 30, 22};
        for (int k = 0; k < types.length; k++) {
            x.set(root, k, x.make(types[k], 3));
        }
        x.root(root, true);
        x.take(1);
        Check.same("things", x.picture(1, 0), 7);
        Check.same("sizes", x.picture(1, 3), 40 + 4 * 16 + 32 + 24);
        Check.same("depth", x.picture(1, 5), 1);
        int[][] due = {{1, 4}, {2, 3}, {1, 1}};
        for (int k = 0; k < 3; k++) {
            Check.same("without heirs", x.picture(1, 100 + k), due[k][0]);
            Check.same("with heirs", x.picture(1, 200 + k), due[k][1]);
            Check.same("not taken", x.picture(2, 200 + k), 0);
        }
        int[] others = {-1, 6, 99, 103, 120, 129, 130, 199, 203, 300, -100, Integer.MAX_VALUE, Integer.MIN_VALUE};
        for (int what : others) {
            Check.same("what " + what, x.picture(1, what), -1);
        }
        Check.same("no picture", x.picture(4, 0), -1);
        Check.same("no picture", x.picture(-1, 0), -1);
        Check.same("not taken", x.picture(0, 5), -1);
        Check.same("not taken", x.picture(0, 3), 0);
    }

    // Promises 34 to 36
    private static void cutting() {
        Check c = nodes(7);
        HeapWorks x = c.x;
        // 0 -> 1, 2; 1 -> 3; 2 -> 3, 4; 5 -> 4; roots 0, 5
        links(c, 0, 1, 2);
        links(c, 1, 3);
        links(c, 2, 3, 4);
        links(c, 5, 4);
        x.root(0, true);
        x.root(5, true);
        x.take(0);
        things(c, 0, 0, 5, 1, 2, 4, 3);
        Check.same("nothing chosen", x.lost(0), 0);
        Check.same("none", x.lostThing(0, 0), -1);
        Check.same("no such", x.choose(0, 6, true), false);
        Check.same("no such", x.choose(0, -1, true), false);
        Check.same("no such", x.choose(1, 0, true), false);
        Check.same("no such", x.choose(4, 0, true), false);
        Check.same("chosen", x.choose(0, 3, true), true);
        Check.same("2 alone", x.lost(0), 1);
        Check.same("2", x.lostThing(0, 0), 3);
        x.choose(0, 2, true);
        Check.same("as of the latest", x.lostThing(0, 1), -1);
        Check.same("1, 2 and 3", x.lost(0), 3);
        int[] due = {2, 3, 5};
        for (int k = 0; k < 3; k++) {
            Check.same("lost", x.lostThing(0, k), due[k]);
        }
        Check.same("no more", x.lostThing(0, 3), -1);
        Check.same("none", x.lostThing(0, -1), -1);
        Check.same("no picture", x.lostThing(4, 0), -1);
        x.choose(0, 2, false);
        x.choose(0, 3, false);
        x.choose(0, 0, true);
        Check.same("all of the first root", x.lost(0), 4);
        x.take(0);
        Check.same("a new picture has no lost ones", x.lostThing(0, 0), -1);
        Check.same("nor chosen ones", x.lost(0), 0);
        Check.refused("no picture", Check.INDEX, () -> x.lost(4));
        Check.refused("no picture", Check.INDEX, () -> x.lost(-1));
    }

    // Promises 37 and 38
    private static void growing() {
        Check c = nodes(8);
        HeapWorks x = c.x;
        links(c, 0, 1, 2, 3);
        links(c, 2, 4);
        x.root(0, true);
        Check.same("things", x.take(0), 5);
        links(c, 0, 5, 2, 3);
        links(c, 2, 6, 4);
        x.set(3, 3, 9);
        x.set(5, 0, 7);
        Check.same("things", x.take(1), 7);
        // now: 0, 5, 2, 3, 7, 6, 4
        grown(x, 0, 1, 0, 1, 4, 5);
        grown(x, 0, 1, 1, 1);
        grown(x, 0, 1, 2, 0, 2, 3);
        grown(x, 1, 0, 0, 1);
        grown(x, 1, 0, 1, 1, 4, 5);
        grown(x, 1, 0, 2, 0, 2, 3);
        grown(x, 1, 1, 0);
        grown(x, 1, 1, 2);
        grown(x, 2, 1, 0, 0, 1, 2, 3, 4, 5, 6);
        x.growth(0, 1, 0);
        x.take(1);
        x.wipe();
        Check.same("as of the latest growth", x.grown(2), 5);
        Check.refused("p", Check.INDEX, () -> x.growth(4, 0, 0));
        Check.refused("q", Check.INDEX, () -> x.growth(0, -1, 0));
        Check.refused("what", Check.INDEX, () -> x.growth(0, 1, 3));
        Check.refused("what", Check.INDEX, () -> x.growth(0, 1, -1));
        Check.same("still", x.grown(2), 5);
    }

    private static void grown(HeapWorks x, int p, int q, int what, int... due) {
        Check.same("growth " + p + q + what, x.growth(p, q, what), due.length);
        for (int k = 0; k < due.length; k++) {
            Check.same("grown " + p + q + what + " " + k, x.grown(k), due[k]);
        }
        Check.same("no more", x.grown(due.length), -1);
        Check.same("none", x.grown(-1), -1);
    }

    // An object's number with another type or length comes from bytes alone.
    private static void changedKinds() {
        Check c = new Check();
        HeapWorks x = c.x;
        int[][] things = {{20, 2, 0, 0}, {20, 3, 0, 0, 0}, {21, 2, 0, 0}};
        for (int p = 0; p < 3; p++) {
            int[] bytes = new int[things[p].length + 7];
            int[] head = {72, 80, 1, 7};
            System.arraycopy(head, 0, bytes, 0, 4);
            System.arraycopy(things[p], 0, bytes, 4, things[p].length);
            bytes[4 + things[p].length] = 1;
            c.tape(Check.checked(bytes));
            Check.same("load", x.load(p), 1);
        }
        grown(x, 0, 1, 2, 0);
        grown(x, 0, 2, 2, 0);
        grown(x, 0, 0, 2);
        Check.same("another length", x.like(0, 0, 1, 0), false);
        Check.same("another type", x.like(0, 0, 2, 0), false);
    }

    // Promise 39
    private static void likeness() {
        Check c = nodes(12);
        HeapWorks x = c.x;
        // rings 0 1 2 and 3 4 5; 6 -> 7, 7 and 8 -> 9, 10; 11
        for (int k = 0; k < 6; k++) {
            links(c, k, k % 3 == 2 ? k - 2 : k + 1);
        }
        links(c, 6, 7, 7);
        links(c, 8, 9, 10);
        for (int k = 0; k < 12; k++) {
            x.root(k, true);
        }
        x.take(0);
        Check.same("itself", x.like(0, 0, 0, 0), true);
        Check.same("another ring", x.like(0, 0, 0, 3), true);
        Check.same("turned", x.like(0, 0, 0, 4), true);
        Check.same("within the ring", x.like(0, 0, 0, 1), true);
        Check.same("one for two", x.like(0, 6, 0, 8), false);
        Check.same("two for one", x.like(0, 8, 0, 6), false);
        Check.same("null against a thing", x.like(0, 11, 0, 6), false);
        Check.same("a thing against null", x.like(0, 6, 0, 11), false);
        Check.same("leaves", x.like(0, 11, 0, 7), true);
        x.set(5, 3, 1);
        x.take(1);
        Check.same("another value", x.like(0, 0, 1, 3), false);
        Check.same("it is far off", x.like(0, 3, 1, 4), false);
        Check.same("the other ring", x.like(0, 3, 1, 0), true);
        Check.refused("t", Check.ELEMENT, () -> x.like(0, 12, 1, 0));
        Check.refused("u", Check.ELEMENT, () -> x.like(0, 0, 1, -1));
        Check.refused("p", Check.ELEMENT, () -> x.like(4, 0, 1, 0));
        Check.refused("q", Check.ELEMENT, () -> x.like(0, 0, -1, 0));
        Check.refused("not taken", Check.ELEMENT, () -> x.like(0, 0, 2, 0));
    }

    private static void wrongNumbers() {
        Check c = nodes(1);
        HeapWorks x = c.x;
        Check.refused("take", Check.INDEX, () -> x.take(4));
        Check.refused("take", Check.INDEX, () -> x.take(-1));
        Check.same("nothing is reached", x.take(0), 0);
        x.root(0, true);
        Check.same("things", x.take(3), 1);
        int[] whats = {13, -1, 100, Integer.MAX_VALUE};
        for (int what : whats) {
            Check.same("what " + what, x.thing(3, 0, what), -1);
        }
        Check.same("no thing", x.thing(3, 1, 0), -1);
        Check.same("no thing", x.thing(3, -1, 0), -1);
        Check.same("no picture", x.thing(4, 0, 0), -1);
        Check.same("no picture", x.thing(-1, 0, 0), -1);
        Check.refused("no thing", Check.ELEMENT, () -> x.slot(3, 1, 0));
        Check.refused("no picture", Check.ELEMENT, () -> x.slot(4, 0, 0));
        Check.refused("no thing", Check.ELEMENT, () -> x.holder(3, 1, 0, 0));
        Check.refused("no picture", Check.ELEMENT, () -> x.holder(-1, 0, 0, 0));
    }
}
