/** Promises 11 to 18, 21 and 22: objects, values, roots, collecting and copying. */
public final class HeapTest {
    public static void main(String[] args) {
        making();
        limits();
        roots();
        values();
        fitting();
        statics();
        collecting();
        copying();
        copyLimits();
        Check.done("HeapTest");
    }

    // Promises 11 and 17
    private static void making() {
        Check c = new Check();
        HeapWorks x = c.x;
        c.type("A");
        c.field(0, "i", 3);
        c.field(0, "l", 5);
        int[] none = {-1, 1, 15, 19, 25, 28, 31, 46, -2, 1000};
        for (int type : none) {
            Check.refused("type " + type, Check.ARGUMENT, () -> x.make(type, 1));
        }
        Check.refused("length", Check.ARGUMENT, () -> x.make(20, -1));
        Check.refused("length", Check.ARGUMENT, () -> x.make(30, 61));
        Check.same("an object's length does not count", x.make(0, -7), 0);
        Check.same("array", x.make(29, 60), 1);
        Check.same("array", x.make(22, 0), 2);
        Check.same("type", x.object(0, 0), 0);
        Check.same("type", x.object(1, 0), 29);
        Check.same("length of an object", x.object(0, 1), 0);
        Check.same("length", x.object(1, 1), 60);
        Check.same("size", x.object(0, 2), 24);
        Check.same("another what", x.object(0, 3), -1);
        Check.same("another what", x.object(0, -1), -1);
        Check.same("none", x.object(3, 0), -1);
        Check.same("none", x.object(-1, 0), -1);
        Check.same("first value", x.get(0, 0), 0);
        Check.same("first link", x.get(0, 1), -1);
        Check.same("first link", x.get(1, 59), -1);
        Check.same("objects", x.about(2), 3);
        Check.same("slots", x.about(3), 62);
    }

    private static void limits() {
        Check c = new Check();
        HeapWorks x = c.x;
        for (int k = 0; k < 66; k++) {
            x.make(20, 60);
        }
        x.make(20, 39);
        Check.same("slots", x.about(3), 3999);
        Check.refused("too many slots", Check.STATE, () -> x.make(20, 2));
        Check.refused("no type first", Check.ARGUMENT, () -> x.make(0, 2));
        Check.same("as many as may be", x.make(20, 1), 67);
        Check.same("no slots", x.make(24, 0), 68);
        x.collect();
        Check.same("slots are free again", x.about(3), 0);
        Check.same("numbers are not", x.make(20, 60), 69);
        for (int k = 70; k < 400; k++) {
            Check.same("number", x.make(23, 1), k);
        }
        Check.refused("a 401st", Check.STATE, () -> x.make(23, 1));
        x.collect();
        Check.refused("a 401st", Check.STATE, () -> x.make(23, 1));
        Check.same("objects", x.about(2), 0);
    }

    // Promise 12
    private static void roots() {
        Check c = new Check();
        HeapWorks x = c.x;
        c.type("A");
        for (int k = 0; k < 14; k++) {
            x.make(0, 0);
        }
        Check.refused("no object", Check.ELEMENT, () -> { x.root(14, true); return 0; });
        Check.refused("no object", Check.ELEMENT, () -> { x.root(-1, false); return 0; });
        x.root(5, false);
        Check.same("none told", x.about(4), 0);
        for (int k = 0; k < 12; k++) {
            x.root(11 - k, true);
        }
        Check.refused("a 13th", Check.STATE, () -> { x.root(12, true); return 0; });
        x.root(3, true);
        x.root(12, false);
        Check.same("roots", x.about(4), 12);
        x.take(0);
        Check.same("order", x.thing(0, 0, 0), 11);
        Check.same("order", x.thing(0, 8, 0), 3);
        x.root(11, false);
        x.root(12, true);
        x.root(10, false);
        x.root(10, true);
        x.take(0);
        Check.same("the next one is first", x.thing(0, 0, 0), 9);
        Check.same("the new one", x.thing(0, 10, 0), 12);
        Check.same("told again is last", x.thing(0, 11, 0), 10);
    }

    // Promises 13 and 15
    private static void values() {
        Check c = new Check();
        HeapWorks x = c.x;
        long[][] edges = {{0, 1}, {-128, 127}, {-32768, 32767}, {-2147483648L, 2147483647L},
            {Long.MIN_VALUE, Long.MAX_VALUE}};
        int write = 0;
        for (int kind = 0; kind < 5; kind++) {
            int o = x.make(20 + kind, 2);
            for (int k = 0; k < 2; k++) {
                long edge = edges[kind][k];
                int slot = k;
                Check.same("write", x.set(o, slot, edge), write);
                write++;
                Check.same("read", x.get(o, slot), edge);
                if (kind < 4) {
                    long beyond = k == 0 ? edge - 1 : edge + 1;
                    Check.refused("kind " + kind, Check.ARGUMENT, () -> x.set(o, slot, beyond));
                    Check.same("it stays", x.get(o, slot), edge);
                }
            }
            Check.refused("no slot", Check.ELEMENT, () -> x.set(o, 2, 99999999999L));
            Check.refused("no slot", Check.ELEMENT, () -> x.set(o, -1, 0));
            Check.refused("no slot", Check.ELEMENT, () -> x.get(o, 2));
            Check.refused("no slot", Check.ELEMENT, () -> x.get(o, -1));
        }
        Check.refused("no object", Check.ELEMENT, () -> x.set(5, 0, 0));
        Check.refused("no object", Check.ELEMENT, () -> x.get(-1, 0));
        Check.same("the same value is a write", x.set(0, 0, 0), write);
        Check.same("writes", x.about(5), write + 1);
    }

    private static void fitting() {
        Check c = new Check();
        HeapWorks x = c.x;
        c.type("A");
        c.type("B", 0, 0);
        c.type("C", 1, 0);
        c.type("D");
        c.type("E");
        int[] wanted = {-1, 1, 20, 29, 31, 33};
        for (int k = 0; k < 6; k++) {
            c.link(4, "f" + k, wanted[k]);
        }
        int e = x.make(4, 0);
        int[] types = {0, 1, 2, 3, 4, 20, 21, 29, 30, 31, 32, 33};
        for (int type : types) {
            x.make(type, 1);
        }
        boolean[][] fits = {
            {true, true, true, true, true, true, true, true, true, true, true, true},
            {false, true, true, false, false, false, false, false, false, false, false, false},
            {false, false, false, false, false, true, false, false, false, false, false, false},
            {false, false, false, false, false, false, false, true, true, true, true, true},
            {false, false, false, false, false, false, false, false, false, true, true, false},
            {false, false, false, false, false, false, false, false, false, false, false, true}};
        for (int f = 0; f < 6; f++) {
            int slot = f;
            for (int k = 0; k < types.length; k++) {
                int o = 1 + k;
                if (fits[f][k]) {
                    x.set(e, slot, o);
                    Check.same("it fits", x.get(e, slot), o);
                } else {
                    Check.refused("type " + types[k] + " in " + wanted[f], Check.ARGUMENT, () -> x.set(e, slot, o));
                }
            }
            Check.same("null fits", x.set(e, slot, -1) >= 0, true);
            Check.refused("no object", Check.ARGUMENT, () -> x.set(e, slot, 13));
            Check.refused("no object", Check.ARGUMENT, () -> x.set(e, slot, -2));
            Check.refused("no object", Check.ARGUMENT, () -> x.set(e, slot, 1L << 32));
        }
        int ofB = 10;
        x.set(ofB, 0, 3);
        Check.refused("an array of B's", Check.ARGUMENT, () -> x.set(ofB, 0, 1));
        int any = 8;
        x.set(any, 0, any);
        Check.same("an array of any links", x.get(any, 0), any);
    }

    // Promises 14 and 16
    private static void statics() {
        Check c = new Check();
        HeapWorks x = c.x;
        c.type("A");
        c.field(0, "f", 3);
        c.field(0, "s", 1, -1, true);
        c.field(0, "t", 5, 0, true);
        c.type("B", 0, 0);
        Check.same("first", x.getStatic(0, 0), 0);
        Check.same("first link", x.getStatic(0, 1), -1);
        Check.same("write", x.setStatic(0, 0, -128), 0);
        Check.refused("kind", Check.ARGUMENT, () -> x.setStatic(0, 0, 128));
        Check.same("read", x.getStatic(0, 0), -128);
        Check.refused("none", Check.ELEMENT, () -> x.getStatic(0, 2));
        Check.refused("none", Check.ELEMENT, () -> x.getStatic(0, -1));
        Check.refused("the parent's are not the heir's", Check.ELEMENT, () -> x.getStatic(1, 0));
        Check.refused("no class", Check.ELEMENT, () -> x.setStatic(2, 0, 0));
        Check.refused("none", Check.ELEMENT, () -> x.setStatic(0, 2, 0));
        int array = x.make(20, 1);
        int b = x.make(1, 0);
        Check.refused("it does not fit", Check.ARGUMENT, () -> x.setStatic(0, 1, array));
        Check.same("it fits", x.setStatic(0, 1, b), 1);
        Check.same("statics are roots", x.collect(), 1);
        Check.same("it is there", x.object(b, 0), 1);
        Check.same("it is not", x.object(array, 0), -1);
        Check.refused("gone", Check.ARGUMENT, () -> x.setStatic(0, 1, array));
    }

    // Promise 18
    private static void collecting() {
        Check c = new Check();
        HeapWorks x = c.x;
        c.type("A");
        c.link(0, "a", -1);
        c.field(0, "n", 4);
        for (int k = 0; k < 8; k++) {
            x.make(0, 0);
            x.set(k, 1, 100 + k);
        }
        x.make(29, 3);
        // 1 -> 3 -> 8 -> 6; 2 and 4 are a ring that nothing holds
        x.set(1, 0, 3);
        x.set(3, 0, 8);
        x.set(8, 2, 6);
        x.set(2, 0, 4);
        x.set(4, 0, 2);
        x.root(1, true);
        Check.same("writes to undo", x.about(6), 13);
        Check.same("gone", x.collect(), 5);
        Check.same("nothing to undo", x.about(6), 0);
        Check.same("undo", x.undo(), -1);
        Check.same("objects", x.about(2), 4);
        Check.same("slots", x.about(3), 9);
        int[] there = {1, 3, 6, 8};
        for (int o : there) {
            Check.same("there", x.object(o, 0) >= 0, true);
        }
        Check.same("value", x.get(6, 1), 106);
        Check.same("value", x.get(3, 1), 103);
        Check.same("link", x.get(8, 2), 6);
        Check.same("link", x.get(3, 0), 8);
        Check.refused("gone", Check.ELEMENT, () -> x.get(2, 0));
        Check.refused("gone", Check.ELEMENT, () -> x.set(0, 0, -1));
        Check.refused("gone", Check.ARGUMENT, () -> x.set(1, 0, 7));
        Check.same("the next number", x.make(0, 0), 9);
        Check.same("again", x.collect(), 1);
        Check.same("again", x.collect(), 0);
        x.root(1, false);
        Check.same("all", x.collect(), 4);
        Check.same("slots", x.about(3), 0);
    }

    // Promises 21 and 22
    private static void copying() {
        Check c = new Check();
        HeapWorks x = c.x;
        c.type("A");
        c.link(0, "a", -1);
        c.link(0, "b", -1);
        c.field(0, "n", 3);
        c.type("P", 0, 0);
        c.type("Q", 1, 0);
        for (int k = 0; k < 4; k++) {
            x.make(0, 0);
            x.set(k, 2, 10 + k);
        }
        int q = x.make(2, 0);
        int array = x.make(29, 2);
        // 0 -> (q, 1), 1 -> (0, 2), q -> (3, 2), 2 -> (array, -), array -> (0, q); 3 is reached through q alone
        x.set(0, 0, q);
        x.set(0, 1, 1);
        x.set(1, 0, 0);
        x.set(1, 1, 2);
        x.set(q, 0, 3);
        x.set(q, 1, 2);
        x.set(2, 0, array);
        x.set(array, 0, 0);
        x.set(array, 1, q);
        int writes = x.about(5);
        Check.refused("no object", Check.ELEMENT, () -> x.copy(6, 0));
        Check.refused("no object first", Check.ELEMENT, () -> x.copy(-1, 9));
        Check.refused("no way", Check.ARGUMENT, () -> x.copy(0, 3));
        Check.refused("no way", Check.ARGUMENT, () -> x.copy(0, -1));
        // way 0
        Check.same("alone", x.copy(0, 0), 6);
        Check.same("objects", x.about(2), 7);
        Check.same("as before", x.get(6, 0), q);
        Check.same("as before", x.get(6, 1), 1);
        Check.same("value", x.get(6, 2), 10);
        x.set(6, 0, 6);
        Check.same("alone", x.copy(6, 0), 7);
        Check.same("it links to itself", x.get(7, 0), 7);
        // way 1: 0, q, 1, 3, 2, array
        Check.same("all", x.copy(0, 1), 8);
        Check.same("objects", x.about(2), 14);
        long[][] due = {{9, 10, 10}, {11, 12, 0}, {8, 12, 11}, {-1, -1, 13}, {13, -1, 12}, {8, 9}};
        for (int o = 0; o < due.length; o++) {
            for (int k = 0; k < due[o].length; k++) {
                Check.same("copy " + (8 + o) + " slot " + k, x.get(8 + o, k), due[o][k]);
            }
        }
        Check.same("type", x.object(9, 0), 2);
        Check.same("type", x.object(13, 0), 29);
        Check.same("length", x.object(13, 1), 2);
        // way 2
        Check.same("no class", x.apart(3, true), false);
        Check.same("no class", x.apart(-1, true), false);
        Check.same("no class", x.apart(20, true), false);
        Check.same("apart", x.apart(1, true), true);
        Check.same("without what is apart", x.copy(0, 2), 14);
        Check.same("objects", x.about(2), 18);
        long[][] rest = {{q, 15, 10}, {14, 16, 11}, {17, -1, 12}, {14, q}};
        for (int o = 0; o < rest.length; o++) {
            for (int k = 0; k < rest[o].length; k++) {
                Check.same("copy " + (14 + o) + " slot " + k, x.get(14 + o, k), rest[o][k]);
            }
        }
        Check.same("one that is apart itself", x.copy(q, 2), 18);
        Check.same("its links", x.get(18, 0), 19);
        Check.same("its links", x.get(18, 1), 20);
        Check.same("a link back to it", x.get(22, 0), 18);
        Check.same("a link on", x.get(22, 1), 23);
        x.apart(1, false);
        int next = x.make(0, 0);
        Check.same("no longer apart", x.copy(0, 2), next + 1);
        Check.same("six of them", x.make(0, 0), next + 7);
        Check.same("no writes", x.about(5), writes + 1);
    }

    private static void copyLimits() {
        Check c = new Check();
        HeapWorks x = c.x;
        for (int k = 0; k < 34; k++) {
            x.make(29, 60);
        }
        for (int k = 0; k < 33; k++) {
            x.set(k, 0, k + 1);
        }
        Check.refused("slots", Check.STATE, () -> x.copy(0, 1));
        Check.refused("no way first", Check.ARGUMENT, () -> x.copy(0, 5));
        Check.same("nothing was made", x.about(2), 34);
        Check.same("from the third on", x.copy(2, 1), 34);
        Check.same("slots", x.about(3), 66 * 60);
        Check.refused("slots", Check.STATE, () -> x.copy(0, 0));
        c.type("N");
        for (int k = 66; k < 398; k++) {
            x.make(0, 0);
        }
        int pair = x.make(29, 1);
        x.set(pair, 0, 70);
        Check.refused("objects", Check.STATE, () -> x.copy(pair, 1));
        Check.same("one more", x.copy(70, 1), 399);
        Check.refused("objects", Check.STATE, () -> x.copy(70, 1));
    }
}
