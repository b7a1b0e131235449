/** Objects, roots, values, collecting and copying, word for word: promises 11 to 18, 21 and 22. */
final class HeapSentences {
    private static final int LEAST = Integer.MIN_VALUE;
    private static final int MOST = Integer.MAX_VALUE;

    static void run() {
        roots();
        promise11();
        promise12();
        promise13();
        statics();
        promise15();
        promise17();
        promise18();
        copying();
        promise21();
        promise22();
    }

    // Objects of a class A with two links a, b to anything, and an INT n.
    private static HeapWorks nodes(Check c, int count) {
        c.type("A");
        c.link(0, "a", -1);
        c.link(0, "b", -1);
        c.field(0, "n", 3);
        for (int k = 0; k < count; k++) {
            c.x.make(0, 0);
            c.x.set(k, 2, 100 + k);
        }
        return c.x;
    }

    private static void things(HeapWorks x, int... objects) {
        Check.same("things", x.take(0), objects.length);
        for (int t = 0; t < objects.length; t++) {
            Check.same("thing " + t, x.thing(0, t, 0), objects[t]);
        }
    }

    private static void roots() {
        Document.terms().says("ROOTS: objects that were told, at most 12, each once, in the order told; then the statics that "
            + "are LINKS, class by class.", c -> {
            HeapWorks x = c.x;
            c.type("S");
            c.field(0, "s", 5, -1, true);
            c.field(0, "i", 3, -1, true);
            c.field(0, "t", 5, -1, true);
            c.type("T");
            c.field(1, "f", 5, -1, false);
            c.field(1, "u", 5, -1, true);
            for (int k = 0; k < 16; k++) {
                x.make(20, 0);
            }
            x.setStatic(1, 0, 15);
            x.setStatic(0, 2, 14);
            x.setStatic(0, 0, 13);
            x.setStatic(0, 1, 12);
            things(x, 13, 14, 15);
            for (int k = 11; k >= 0; k--) {
                x.root(k, true);
                x.root(11, true);
            }
            Check.same("12", x.about(4), 12);
            Check.refused("a 13th", Check.STATE, () -> { x.root(12, true); return 0; });
            Check.refused("nor what a static links to", Check.STATE, () -> { x.root(13, true); return 0; });
            things(x, 11, 10, 9, 8, 7, 6, 5, 4, 3, 2, 1, 0, 13, 14, 15);
        });
    }

    private static void promise11() {
        Document d = Document.promise(11);
        d.says("A new object of a class, or array of a type with a length (which counts for arrays alone): its number.", c -> {
            c.type("A");
            c.field(0, "n", 3);
            Check.same("an object", c.x.make(0, MOST), 0);
            Check.same("an object", c.x.make(0, LEAST), 1);
            Check.same("an array", c.x.make(23, 60), 2);
            Check.same("an empty array", c.x.make(30, 0), 3);
            Check.same("objects", c.x.about(2), 4);
            Check.same("slots", c.x.about(3), 62);
            Check.same("no length", c.x.object(0, 1), 0);
            Check.same("its length", c.x.object(2, 1), 60);
            Check.refused("a refused one", Check.ARGUMENT, () -> c.x.make(30, 61));
            Check.same("takes no number", c.x.make(29, 1), 4);
        });
        d.says("IllegalArgumentException: no such type (NONE is none), or length.", c -> {
            Check.refused("no class yet", Check.ARGUMENT, () -> c.x.make(0, 0));
            Check.refused("nor its arrays", Check.ARGUMENT, () -> c.x.make(30, 0));
            c.type("A");
            int[] none = {-1, -2, 1, 15, 16, 19, 25, 28, 31, 45, 46, LEAST, MOST};
            for (int type : none) {
                Check.refused("type " + type, Check.ARGUMENT, () -> c.x.make(type, 0));
            }
            int[] types = {20, 24, 29, 30};
            for (int type : types) {
                Check.refused("length -1", Check.ARGUMENT, () -> c.x.make(type, -1));
                Check.refused("length 61", Check.ARGUMENT, () -> c.x.make(type, 61));
            }
            for (int k = 0; k < 400; k++) {
                c.x.make(0, 0);
            }
            Check.refused("ahead of a full heap", Check.ARGUMENT, () -> c.x.make(-1, 0));
            Check.refused("ahead of a full heap", Check.ARGUMENT, () -> c.x.make(20, 61));
        });
        d.says("IllegalStateException: 400 were made, or there would be more than 4000 slots.", c -> {
            for (int k = 0; k < 399; k++) {
                c.x.make(20, 10);
            }
            Check.refused("4001 slots", Check.STATE, () -> c.x.make(20, 11));
            Check.same("4000 slots", c.x.make(20, 10), 399);
            Check.refused("a 401st", Check.STATE, () -> c.x.make(20, 0));
            Check.same("400", c.x.about(2), 400);
            Check.same("4000", c.x.about(3), 4000);
        });
    }

    private static void promise12() {
        Document d = Document.promise(12);
        d.says("Whether an object is told as a root from now on (as the last one, or where it is).", c -> {
            HeapWorks x = nodes(c, 4);
            x.root(2, true);
            x.root(0, true);
            x.root(3, true);
            things(x, 2, 0, 3);
            x.root(2, true);
            things(x, 2, 0, 3);
            x.root(1, false);
            things(x, 2, 0, 3);
            x.root(0, false);
            things(x, 2, 3);
            x.root(0, true);
            things(x, 2, 3, 0);
            x.root(0, false);
            x.root(2, false);
            x.root(3, false);
            things(x);
            Check.same("none", x.about(4), 0);
        });
        d.says("NoSuchElementException: no such object.", c -> {
            HeapWorks x = nodes(c, 2);
            int[] none = {-1, 2, 400, LEAST, MOST};
            for (int o : none) {
                Check.refused("root " + o, Check.ELEMENT, () -> { x.root(o, true); return 0; });
                Check.refused("no root " + o, Check.ELEMENT, () -> { x.root(o, false); return 0; });
            }
            x.collect();
            Check.refused("one that went", Check.ELEMENT, () -> { x.root(0, true); return 0; });
        });
        d.says("IllegalStateException: there are 12 (others).", c -> {
            HeapWorks x = nodes(c, 14);
            for (int k = 0; k < 12; k++) {
                x.root(k, true);
            }
            Check.refused("a 13th", Check.STATE, () -> { x.root(12, true); return 0; });
            x.root(7, true);
            x.root(12, false);
            Check.same("12", x.about(4), 12);
            x.root(7, false);
            x.root(12, true);
            Check.same("12", x.about(4), 12);
            Check.refused("a 13th", Check.STATE, () -> { x.root(7, true); return 0; });
            Check.refused("no object first", Check.ELEMENT, () -> { x.root(14, true); return 0; });
        });
    }

    private static void promise13() {
        Document d = Document.promise(13);
        d.says("A slot is written: the write's number.", c -> {
            HeapWorks x = c.x;
            c.type("A");
            c.field(0, "n", 4);
            c.link(0, "l", 0);
            x.make(0, 0);
            x.make(0, 0);
            Check.same("write", x.set(1, 0, -5), 0);
            Check.same("write", x.set(1, 1, 0), 1);
            Check.same("it", x.get(1, 0), -5);
            Check.same("it", x.get(1, 1), 0);
            Check.same("the other one stays", x.get(0, 0), 0);
            Check.same("the other one stays", x.get(0, 1), -1);
        });
        d.says("NoSuchElementException: no such object or slot.", c -> {
            HeapWorks x = nodes(c, 2);
            int array = x.make(20, 2);
            int empty = x.make(20, 0);
            int[][] none = {{-1, 0}, {4, 0}, {400, 0}, {LEAST, 0}, {MOST, 0}, {0, -1}, {0, 3}, {0, LEAST}, {0, MOST},
                {array, 2}, {array, -1}, {empty, 0}};
            for (int[] n : none) {
                Check.refused("slot " + n[0] + ", " + n[1], Check.ELEMENT, () -> x.set(n[0], n[1], 0));
                Check.refused("ahead of a value", Check.ELEMENT, () -> x.set(n[0], n[1], Long.MAX_VALUE));
            }
            Check.same("writes", x.about(5), 2);
            x.root(0, true);
            x.collect();
            Check.refused("one that went", Check.ELEMENT, () -> x.set(1, 2, 0));
        });
        d.says("IllegalArgumentException: the value is not of the kind, or doesn't FIT.", c -> {
            HeapWorks x = c.x;
            c.type("A");
            c.field(0, "b", 0);
            c.link(0, "l", 0);
            c.type("B", 0, 0);
            c.type("D");
            int a = x.make(0, 0);
            int b = x.make(1, 0);
            int other = x.make(2, 0);
            Check.refused("2 is no BIT", Check.ARGUMENT, () -> x.set(a, 0, 2));
            Check.refused("-1 is no BIT", Check.ARGUMENT, () -> x.set(a, 0, -1));
            Check.refused("another class", Check.ARGUMENT, () -> x.set(a, 1, other));
            Check.refused("no object", Check.ARGUMENT, () -> x.set(a, 1, 3));
            Check.refused("below NONE", Check.ARGUMENT, () -> x.set(a, 1, -2));
            Check.refused("no int", Check.ARGUMENT, () -> x.set(a, 1, 1L << 32));
            Check.same("an heir", x.set(a, 1, b), 0);
            Check.same("null", x.set(a, 1, -1), 1);
            x.root(a, true);
            x.collect();
            Check.refused("one that went", Check.ARGUMENT, () -> x.set(a, 1, b));
        });
    }

    private static void statics() {
        Document.promise(14).says("A static is written; likewise.", c -> {
            HeapWorks x = c.x;
            c.type("A");
            c.field(0, "s", 1, -1, true);
            c.field(0, "n", 3);
            c.field(0, "t", 5, 0, true);
            c.type("B", 0, 0);
            int b = x.make(1, 0);
            int array = x.make(20, 1);
            Check.same("write", x.set(b, 0, 4), 0);
            Check.same("write", x.setStatic(0, 0, -128), 1);
            Check.same("write", x.setStatic(0, 1, b), 2);
            Check.same("it", x.getStatic(0, 0), -128);
            Check.same("it", x.getStatic(0, 1), b);
            int[][] none = {{0, 2}, {0, -1}, {0, LEAST}, {0, MOST}, {1, 0}, {2, 0}, {-1, 0}, {16, 0}, {20, 0}, {LEAST, 0},
                {MOST, 0}};
            for (int[] n : none) {
                Check.refused("static " + n[0] + ", " + n[1], Check.ELEMENT, () -> x.setStatic(n[0], n[1], 0));
                Check.refused("ahead of a value", Check.ELEMENT, () -> x.setStatic(n[0], n[1], Long.MIN_VALUE));
            }
            Check.refused("no BYTE", Check.ARGUMENT, () -> x.setStatic(0, 0, 128));
            Check.refused("no BYTE", Check.ARGUMENT, () -> x.setStatic(0, 0, -129));
            Check.refused("it does not FIT", Check.ARGUMENT, () -> x.setStatic(0, 1, array));
            Check.refused("no object", Check.ARGUMENT, () -> x.setStatic(0, 1, 2));
            Check.same("null", x.setStatic(0, 1, -1), 3);
            Check.same("it", x.getStatic(0, 1), -1);
        });
        Document d = Document.promise(16);
        d.says("What a static has.", c -> {
            c.type("A");
            c.field(0, "n", 3);
            c.field(0, "s", 4, -1, true);
            c.field(0, "t", 5, -1, true);
            Check.same("0 at first", c.x.getStatic(0, 0), 0);
            Check.same("null at first", c.x.getStatic(0, 1), -1);
            c.x.setStatic(0, 0, Long.MIN_VALUE);
            Check.same("what was written", c.x.getStatic(0, 0), Long.MIN_VALUE);
            c.x.undo();
            Check.same("what was before", c.x.getStatic(0, 0), 0);
        });
        d.says("NoSuchElementException: none such.", c -> {
            c.type("A");
            c.field(0, "n", 3);
            Check.refused("no static at all", Check.ELEMENT, () -> c.x.getStatic(0, 0));
            c.field(0, "s", 4, -1, true);
            c.type("B", 0, 0);
            int[][] none = {{0, 1}, {0, -1}, {0, MOST}, {0, LEAST}, {1, 0}, {2, 0}, {-1, 0}, {16, 0}, {LEAST, 0}, {MOST, 0}};
            for (int[] n : none) {
                Check.refused("static " + n[0] + ", " + n[1], Check.ELEMENT, () -> c.x.getStatic(n[0], n[1]));
            }
        });
    }

    private static void promise15() {
        Document d = Document.promise(15);
        d.says("What a slot has.", c -> {
            HeapWorks x = c.x;
            int array = x.make(24, 3);
            x.set(array, 0, Long.MIN_VALUE);
            x.set(array, 2, Long.MAX_VALUE);
            Check.same("the first", x.get(array, 0), Long.MIN_VALUE);
            Check.same("0 at first", x.get(array, 1), 0);
            Check.same("the last", x.get(array, 2), Long.MAX_VALUE);
            Check.same("null at first", x.get(x.make(29, 1), 0), -1);
        });
        d.says("NoSuchElementException: no such object or slot.", c -> {
            HeapWorks x = c.x;
            Check.refused("no object at all", Check.ELEMENT, () -> x.get(0, 0));
            x.make(24, 3);
            x.make(24, 0);
            int[][] none = {{0, 3}, {0, -1}, {0, LEAST}, {0, MOST}, {1, 0}, {2, 0}, {-1, 0}, {LEAST, 0}, {MOST, 0}};
            for (int[] n : none) {
                Check.refused("slot " + n[0] + ", " + n[1], Check.ELEMENT, () -> x.get(n[0], n[1]));
            }
            x.collect();
            Check.refused("one that went", Check.ELEMENT, () -> x.get(0, 0));
        });
    }

    private static void promise17() {
        Document d = Document.promise(17);
        d.says("Of an object: its type (what = 0), length (1; 0 of others than arrays), SIZE (2).", c -> {
            HeapWorks x = nodes(c, 1);
            x.make(30, 3);
            x.make(22, 60);
            x.make(20, 0);
            int[][] due = {{0, 0, 24}, {30, 3, 32}, {22, 60, 136}, {20, 0, 16}};
            for (int o = 0; o < due.length; o++) {
                for (int what = 0; what < 3; what++) {
                    Check.same("object " + o + " what " + what, x.object(o, what), due[o][what]);
                }
            }
        });
        d.says("NONE if there is none such, or for another what.", c -> {
            HeapWorks x = nodes(c, 2);
            x.root(0, true);
            x.collect();
            int[] none = {-1, 1, 2, 400, LEAST, MOST};
            for (int o : none) {
                for (int what = 0; what < 3; what++) {
                    Check.same("object " + o, x.object(o, what), -1);
                }
            }
            int[] whats = {-1, 3, LEAST, MOST};
            for (int what : whats) {
                Check.same("what " + what, x.object(0, what), -1);
            }
        });
    }

    private static void promise18() {
        Document.promise(18).says("Objects that no root reaches go (their numbers are never had again): how many.", c -> {
            HeapWorks x = c.x;
            Check.same("nothing there", x.collect(), 0);
            c.type("S");
            c.field(0, "s", 5, -1, true);
            c.type("A");
            c.link(1, "a", -1);
            c.link(1, "b", -1);
            for (int k = 0; k < 8; k++) {
                x.make(1, 0);
            }
            // root 0 -> 1 -> 2; static -> 3 -> 3, 4; 5 and 6 hold one another and 1; 7 is alone
            x.set(0, 1, 1);
            x.set(1, 0, 2);
            x.set(3, 0, 3);
            x.set(3, 1, 4);
            x.set(5, 0, 6);
            x.set(6, 0, 5);
            x.set(6, 1, 1);
            x.root(0, true);
            x.setStatic(0, 0, 3);
            Check.same("three", x.collect(), 3);
            int[] there = {0, 1, 2, 3, 4};
            for (int o : there) {
                Check.same("it is there", x.object(o, 0), 1);
            }
            for (int o = 5; o < 8; o++) {
                Check.same("it went", x.object(o, 0), -1);
            }
            Check.same("links stay", x.get(3, 1) * 10 + x.get(1, 0), 42);
            Check.same("none", x.collect(), 0);
            Check.same("never had again", x.make(1, 0), 8);
            x.setStatic(0, 0, -1);
            Check.same("three more", x.collect(), 3);
            x.root(0, false);
            Check.same("all", x.collect(), 3);
            Check.same("none is there", x.about(2), 0);
            Check.same("no slot", x.about(3), 0);
            Check.same("never had again", x.make(1, 0), 9);
            // what stays keeps its kinds, though numbers stood where its links are now, and links where its numbers are
            Check mixed = new Check();
            HeapWorks y = mixed.x;
            int[] types = {24, 29, 29, 24, 29};
            for (int type : types) {
                y.make(type, 2);
            }
            y.set(0, 0, 3);
            y.set(1, 0, 3);
            y.set(3, 1, 1);
            y.set(4, 1, 1);
            y.root(4, true);
            Check.same("two go", y.collect(), 2);
            Check.same("three are reached", y.take(0), 3);
            Check.same("the links", y.slot(0, 0, 1) * 10 + y.slot(0, 1, 0), 12);
            Check.same("a number", y.slot(0, 2, 1), 1);
            Check.same("none", y.collect(), 0);
            Check.same("a copy of all", y.get(y.copy(4, 1), 1), 6);
            Check.same("its numbers", y.get(7, 1), 1);
        });
    }

    // 0 -> 1, 2; 1 -> 3, 0; 2 -> 3, 4; 3 -> 3; 4 -> 5 -> 1; 6 -> 0
    private static HeapWorks web(Check c) {
        HeapWorks x = nodes(c, 7);
        int[][] links = {{1, 2}, {3, 0}, {3, 4}, {3}, {5}, {1}, {0}};
        for (int o = 0; o < links.length; o++) {
            for (int k = 0; k < links[o].length; k++) {
                x.set(o, k, links[o][k]);
            }
        }
        return x;
    }

    private static void slots(HeapWorks x, int o, long... due) {
        for (int k = 0; k < due.length; k++) {
            Check.same("slot " + k + " of " + o, x.get(o, k), due[k]);
        }
    }

    private static void copying() {
        Document d = Document.terms();
        d.says("COPYING an object: a way 0: it alone;", c -> {
            HeapWorks x = web(c);
            Check.same("the copy", x.copy(0, 0), 7);
            Check.same("one more", x.about(2), 8);
            slots(x, 7, 1, 2, 100);
            Check.same("the copy", x.copy(3, 0), 8);
            slots(x, 8, 8, -1, 103);
            int array = x.make(22, 2);
            x.set(array, 1, 77);
            Check.same("of an array", x.copy(array, 0), 10);
            Check.same("type", x.object(10, 0), 22);
            Check.same("length", x.object(10, 1), 2);
            slots(x, 10, 0, 77);
        });
        d.says("1: all that it reaches, each once;", c -> {
            HeapWorks x = web(c);
            Check.same("the copy", x.copy(0, 1), 7);
            Check.same("six more", x.about(2), 13);
            Check.same("one that reaches itself alone", x.copy(3, 1), 13);
            Check.same("one more", x.about(2), 14);
            x.apart(0, true);
            Check.same("apart does not count", x.copy(0, 1), 14);
            Check.same("six more", x.about(2), 20);
        });
        d.says("2: likewise, but other objects of classes that are KEPT APART (what IS such a class) and what is reached "
            + "through such others alone are not copied", c -> {
            HeapWorks x = web(c);
            Check.same("nothing is apart", x.copy(0, 2), 7);
            Check.same("six more", x.about(2), 13);
            c.type("P");
            c.type("Q", 1, 0);
            c.link(2, "a", -1);
            c.type("R", 2, 0);
            x.apart(1, true);
            int r = x.make(3, 0);
            int behind = x.make(0, 0);
            int array = x.make(29, 3);
            // the array holds r, which holds what is behind it and 0; and an array of R's with r in it
            int rs = x.make(33, 1);
            x.set(rs, 0, r);
            x.set(r, 0, behind);
            x.set(behind, 0, 0);
            x.set(array, 0, r);
            x.set(array, 1, rs);
            x.set(array, 2, 6);
            int copy = x.copy(array, 2);
            Check.same("the copy", copy, rs + 1);
            // array, rs, 6, 0, 1, 2, 3, 4, 5
            Check.same("nine more", x.about(2), copy + 9);
            slots(x, copy, r, copy + 1, copy + 2);
            slots(x, copy + 1, r);
            slots(x, copy + 2, copy + 3, -1, 106);
            x.set(array, 2, behind);
            int next = x.copy(array, 2);
            Check.same("what is reached otherwise too", x.get(next, 2), next + 2);
            x.apart(1, false);
            int all = x.copy(array, 2);
            Check.same("no longer apart", x.get(all, 0), all + 1);
        });
        d.says("(the object itself always is, whatever its class, and what it links to by that rule).", c -> {
            HeapWorks x = c.x;
            c.type("P");
            c.link(0, "a", -1);
            c.link(0, "b", -1);
            c.type("A");
            c.link(1, "a", -1);
            x.apart(0, true);
            int p = x.make(0, 0);
            int q = x.make(0, 0);
            int a = x.make(1, 0);
            x.set(p, 0, q);
            x.set(p, 1, a);
            x.set(a, 0, p);
            x.set(q, 0, a);
            Check.same("itself", x.copy(p, 2), 3);
            Check.same("and what is not apart", x.about(2), 5);
            slots(x, 3, q, 4);
            slots(x, 4, 3);
        });
        d.says("The copies are made in the order of a walk from it (see PICTURES, its slots alone), their slots link to copies "
            + "where there are such, else as before; no writes.", c -> {
            HeapWorks x = web(c);
            x.root(6, true);
            x.root(4, true);
            x.watch(0, 0, 0);
            c.text("false");
            x.promise();
            c.text("count(y in things) = 7");
            x.promise();
            int writes = x.about(5);
            Check.same("the copy", x.copy(0, 1), 7);
            // 0, 1, 2, 3, 4, 5
            slots(x, 7, 8, 9, 100);
            slots(x, 8, 10, 7, 101);
            slots(x, 9, 10, 11, 102);
            slots(x, 10, 10, -1, 103);
            slots(x, 11, 12, -1, 104);
            slots(x, 12, 8, -1, 105);
            Check.same("from another one", x.copy(5, 1), 13);
            // 5, 1, 3, 0, 2, 4
            slots(x, 13, 14, -1, 105);
            slots(x, 14, 15, 16, 101);
            slots(x, 15, 15, -1, 103);
            slots(x, 16, 14, 17, 100);
            slots(x, 17, 15, 18, 102);
            slots(x, 18, 13, -1, 104);
            Check.same("else as before", x.copy(6, 0), 19);
            slots(x, 19, 0, -1, 106);
            Check.same("no writes", x.about(5), writes);
            Check.same("no rows", x.rows(0), 0);
            Check.same("a copy is no root", x.take(0), 7);
            Check.same("the first one stays", x.get(0, 0), 1);
            Check.same("no promise looks", x.broken(1), -2);
        });
    }

    private static void promise21() {
        Document d = Document.promise(21);
        d.says("An object is COPIED: the copy's number.", c -> {
            HeapWorks x = web(c);
            Check.same("the first", x.copy(6, 1), 7);
            Check.same("seven were made", x.copy(6, 0), 14);
            Check.same("the next number", x.make(0, 0), 15);
        });
        d.says("NoSuchElementException: no such object.", c -> {
            HeapWorks x = nodes(c, 2);
            x.root(0, true);
            x.collect();
            int[] none = {-1, 1, 2, 400, LEAST, MOST};
            for (int o : none) {
                for (int way = -1; way < 4; way++) {
                    int w = way;
                    Check.refused("object " + o, Check.ELEMENT, () -> x.copy(o, w));
                }
            }
        });
        d.says("IllegalArgumentException: no such way.", c -> {
            HeapWorks x = nodes(c, 1);
            int[] none = {-1, 3, LEAST, MOST};
            for (int way : none) {
                Check.refused("way " + way, Check.ARGUMENT, () -> x.copy(0, way));
            }
            for (int k = 1; k < 400; k++) {
                x.make(20, 0);
            }
            Check.refused("ahead of a full heap", Check.ARGUMENT, () -> x.copy(0, 3));
        });
        d.says("IllegalStateException: there would be too many objects or slots.", c -> {
            HeapWorks x = nodes(c, 2);
            x.set(0, 0, 1);
            for (int k = 2; k < 398; k++) {
                x.make(20, k < 68 ? 60 : 0);
            }
            // 398 objects with 3966 slots
            Check.same("slots", x.about(3), 3966);
            Check.refused("4026 slots", Check.STATE, () -> x.copy(2, 0));
            Check.same("nothing was made", x.about(2), 398);
            Check.same("400 objects", x.copy(0, 1), 398);
            Check.refused("401", Check.STATE, () -> x.copy(0, 0));
            Check.refused("402", Check.STATE, () -> x.copy(0, 2));
            Check fresh = new Check();
            HeapWorks y = fresh.x;
            for (int k = 0; k < 65; k++) {
                y.make(29, 60);
            }
            y.make(29, 50);
            y.set(65, 0, 66 - 1);
            Check.same("3950", y.about(3), 3950);
            Check.same("4000 slots", y.copy(65, 1), 66);
            Check.refused("4050", Check.STATE, () -> y.copy(65, 1));
            Check fit = new Check();
            HeapWorks z = nodes(fit, 399);
            z.set(0, 0, 1);
            Check.refused("401 objects", Check.STATE, () -> z.copy(0, 1));
            Check.same("one alone", z.copy(0, 0), 399);
        });
    }

    private static void promise22() {
        Document.promise(22).says("Whether a class is KEPT APART in copying, from now on: whether there is such a class.", c -> {
            HeapWorks x = c.x;
            Check.same("no class at all", x.apart(0, true), false);
            c.type("A");
            c.link(0, "a", -1);
            c.type("B", 0, 0);
            int[] none = {-1, 2, 16, 20, 30, LEAST, MOST};
            for (int type : none) {
                Check.same("class " + type, x.apart(type, true), false);
                Check.same("class " + type, x.apart(type, false), false);
            }
            x.make(0, 0);
            x.make(1, 0);
            x.set(0, 0, 1);
            Check.same("copied", x.get(x.copy(0, 2), 0), 3);
            Check.same("apart", x.apart(1, true), true);
            Check.same("not copied", x.get(x.copy(0, 2), 0), 1);
            Check.same("once more", x.apart(1, true), true);
            Check.same("no longer", x.apart(1, false), true);
            Check.same("copied", x.get(x.copy(0, 2), 0), 6);
            Check.same("its parent", x.apart(0, true), true);
            Check.same("what IS it", x.get(x.copy(0, 2), 0), 1);
            Check.same("its heir alone is not", x.apart(1, false), true);
            Check.same("it still IS its parent", x.get(x.copy(0, 2), 0), 1);
            // an heir's heir's .. heir
            Check deep = new Check();
            for (int k = 0; k < 16; k++) {
                deep.type("C" + k, k - 1, 0);
            }
            deep.x.make(29, 1);
            deep.x.set(0, 0, deep.x.make(15, 0));
            deep.x.apart(0, true);
            Check.same("apart", deep.x.get(deep.x.copy(0, 2), 0), 1);
        });
    }
}
