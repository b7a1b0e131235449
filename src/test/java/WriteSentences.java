/** Writes, undoing, swapping, watches and promises, word for word: promises 19, 20 and 23 to 27. */
final class WriteSentences {
    private static final int LEAST = Integer.MIN_VALUE;
    private static final int MOST = Integer.MAX_VALUE;

    static void run() {
        writes();
        undoing();
        watches();
        conditions();
        watchRows();
        promisesTold();
        promisesBroken();
        swapping();
        promise19();
        promise20();
        promise23();
        promises24And25();
        promise26();
        promise27();
    }

    // Objects of a class A with an INT n and two links a, b to anything.
    private static HeapWorks nodes(Check c, int count) {
        c.type("A");
        c.field(0, "n", 3);
        c.link(0, "a", -1);
        c.link(0, "b", -1);
        for (int k = 0; k < count; k++) {
            c.x.make(0, 0);
        }
        return c.x;
    }

    private static void row(HeapWorks x, int watch, int k, long... due) {
        for (int what = 0; what < 4; what++) {
            Check.same("watch " + watch + " row " + k + " what " + what, x.row(watch, k, what), due[what]);
        }
    }

    private static int told(Check c, String promise) {
        c.text(promise);
        return c.x.promise();
    }

    private static void writes() {
        Document d = Document.terms();
        d.says("WRITES are numbered from 0 on (as they come, also when a value stays the same): of a slot, or a static.", c -> {
            HeapWorks x = c.x;
            c.type("A");
            c.field(0, "n", 3);
            c.field(0, "s", 3, -1, true);
            x.make(0, 0);
            Check.same("none", x.about(5), 0);
            Check.same("a slot", x.set(0, 0, 0), 0);
            Check.same("a static", x.setStatic(0, 0, 7), 1);
            Check.same("the same value", x.setStatic(0, 0, 7), 2);
            Check.same("the same value", x.set(0, 0, 0), 3);
            Check.refused("a refused one", Check.ARGUMENT, () -> x.set(0, 0, 1L << 40));
            Check.same("is none", x.set(0, 0, 1), 4);
            Check.same("five", x.about(5), 5);
        });
        d.says("A value must be of the kind; a LINK null, or an object that FITS.", c -> {
            HeapWorks x = c.x;
            c.type("A");
            c.type("B", 0, 0);
            int bits = x.make(20, 1);
            int ofB = x.make(31, 1);
            int a = x.make(0, 0);
            int b = x.make(1, 0);
            Check.refused("no BIT", Check.ARGUMENT, () -> x.set(bits, 0, 2));
            Check.same("a BIT", x.set(bits, 0, 1), 0);
            Check.refused("no B", Check.ARGUMENT, () -> x.set(ofB, 0, a));
            Check.same("a B", x.set(ofB, 0, b), 1);
            Check.same("null", x.set(ofB, 0, -1), 2);
            Check.refused("no object", Check.ARGUMENT, () -> x.set(ofB, 0, 4));
        });
    }

    private static void undoing() {
        Document d = Document.terms();
        d.says("UNDOING: the latest write that was not undone is taken back (which is no write),", c -> {
            HeapWorks x = c.x;
            c.type("A");
            c.field(0, "n", 3);
            c.field(0, "s", 3, -1, true);
            x.make(0, 0);
            x.set(0, 0, 5);
            x.setStatic(0, 0, 6);
            x.set(0, 0, 7);
            x.set(0, 0, 7);
            Check.same("the same value", x.undo(), 3);
            Check.same("it", x.get(0, 0), 7);
            Check.same("the next", x.undo(), 2);
            Check.same("it", x.get(0, 0), 5);
            Check.same("no write", x.about(5), 4);
            Check.same("a new write", x.set(0, 0, 9), 4);
            Check.same("undone", x.undo(), 4);
            Check.same("the static", x.undo(), 1);
            Check.same("it", x.getStatic(0, 0), 0);
            Check.same("the first", x.undo(), 0);
            Check.same("it", x.get(0, 0), 0);
            Check.same("none", x.undo(), -1);
            Check.same("writes", x.about(5), 5);
        });
        d.says("at most 100 of them;", c -> {
            HeapWorks x = c.x;
            x.make(24, 1);
            for (int k = 1; k <= 150; k++) {
                x.set(0, 0, k);
                Check.same("to be undone", x.about(6), Math.min(k, 100));
            }
            for (int k = 149; k >= 80; k--) {
                Check.same("undone", x.undo(), k);
                Check.same("value", x.get(0, 0), k);
            }
            for (int k = 1; k <= 80; k++) {
                x.set(0, 0, 1000 + k);
            }
            Check.same("30 and 80", x.about(6), 100);
            for (int k = 80; k >= 1; k--) {
                Check.same("undone", x.undo(), 149 + k);
            }
            for (int k = 79; k >= 60; k--) {
                Check.same("undone", x.undo(), k);
            }
            Check.same("no more", x.undo(), -1);
            Check.same("value", x.get(0, 0), 60);
            Check.same("none to be undone", x.about(6), 0);
        });
        d.says("collect() forgets all.", c -> {
            HeapWorks x = nodes(c, 2);
            x.root(0, true);
            x.root(1, true);
            x.set(0, 0, 5);
            Check.same("none goes", x.collect(), 0);
            Check.same("nothing to be undone", x.about(6), 0);
            Check.same("none", x.undo(), -1);
            Check.same("it stays", x.get(0, 0), 5);
            x.set(1, 0, 6);
            Check.same("a later one", x.undo(), 1);
            Check.same("it", x.get(1, 0), 0);
            Check.same("none", x.undo(), -1);
        });
        d.says("(Roots that a swap changed stay so; promises and watches don't look at an undoing.)", c -> {
            HeapWorks x = nodes(c, 3);
            x.set(2, 1, 0);
            x.root(0, true);
            told(c, "thing 0.n = 0");
            x.watch(0, 1, 0);
            x.set(1, 0, 0);
            Check.same("one write", x.swap(0, 1), 1);
            Check.same("a row", x.rows(0), 1);
            Check.same("undone", x.undo(), 2);
            Check.same("the link", x.get(2, 1), 0);
            x.take(0);
            Check.same("the root stays", x.thing(0, 0, 0), 1);
            Check.same("no row more", x.rows(0), 1);
            x.set(1, 0, 3);
            Check.same("broken", x.broken(0), 3);
            Check fresh = new Check();
            HeapWorks y = nodes(fresh, 1);
            y.root(0, true);
            y.set(0, 0, 1);
            y.set(0, 0, 2);
            told(fresh, "thing 0.n = 2");
            y.undo();
            Check.same("it does not look", y.broken(0), -2);
            y.set(0, 1, -1);
            Check.same("the next write is looked at", y.broken(0), 2);
        });
    }

    private static void watches() {
        Document d = Document.terms();
        d.says("WATCHES, at most 6, numbered as they are told:", c -> {
            HeapWorks x = nodes(c, 1);
            for (int k = 0; k < 6; k++) {
                Check.same("watch", x.watch(0, k % 3, k % 4), k);
            }
            Check.refused("a 7th", Check.STATE, () -> x.watch(0, 0, 0));
            Check.same("6", x.about(9), 6);
            Check.same("no 7th", x.rows(6), -1);
            // a watch has no rows of what was written ahead of it, and six watches look at each write
            Check later = new Check();
            HeapWorks y = later.x;
            later.type("S");
            later.field(0, "s", 3, -1, true);
            later.type("A");
            later.field(1, "n", 3);
            y.make(1, 0);
            for (int k = 0; k < 6; k++) {
                y.setStatic(0, 0, k);
                y.set(0, 0, k);
                Check.same("watch", y.watch(k % 2, 0, 0), k);
                Check.same("no rows", y.rows(k), 0);
            }
            y.setStatic(0, 0, 9);
            y.set(0, 0, 9);
            for (int k = 0; k < 6; k++) {
                Check.same("one more", y.rows(k), 6 - k);
            }
        });
        d.says("of an own field of a class (of objects whose class IS it, or the static),", c -> {
            HeapWorks x = c.x;
            c.type("A");
            c.field(0, "n", 3);
            c.field(0, "s", 3, -1, true);
            c.field(0, "m", 3);
            c.type("B", 0, 0);
            c.field(1, "n", 3);
            c.field(1, "s", 3, -1, true);
            c.type("D");
            c.field(2, "n", 3);
            c.field(2, "s", 3, -1, true);
            x.watch(0, 0, 0);
            x.watch(0, 1, 0);
            x.watch(0, 2, 0);
            x.watch(1, 0, 0);
            x.watch(1, 1, 0);
            x.make(0, 0);
            x.make(1, 0);
            x.make(2, 0);
            x.make(23, 3);
            for (int o = 0; o < 4; o++) {
                x.set(o, 0, 10 + o);
            }
            x.set(0, 1, 20);
            x.set(1, 1, 21);
            x.set(1, 2, 22);
            x.set(3, 1, 23);
            x.set(3, 2, 24);
            x.setStatic(0, 0, 30);
            x.setStatic(1, 0, 31);
            x.setStatic(2, 0, 32);
            Check.same("A.n", x.rows(0), 2);
            row(x, 0, 0, 0, 0, 0, 10);
            row(x, 0, 1, 1, 1, 0, 11);
            Check.same("A.s", x.rows(1), 1);
            row(x, 1, 0, 9, -1, 0, 30);
            Check.same("A.m", x.rows(2), 2);
            row(x, 2, 1, 5, 1, 0, 21);
            Check.same("B.n", x.rows(3), 1);
            row(x, 3, 0, 6, 1, 0, 22);
            Check.same("B.s", x.rows(4), 1);
            row(x, 4, 0, 10, -1, 0, 31);
        });
    }

    // The writes at which a watch of a condition has rows, for numbers and for links (-1, and objects).
    private static void watched(Check c, int condition, String numbers, String links) {
        HeapWorks x = nodes(c, 3);
        c.type("S");
        c.field(1, "s", 4, -1, true);
        c.field(1, "t", 5, -1, true);
        x.watch(0, 0, condition);
        x.watch(1, 0, condition);
        long[] values = {0, 5, 5, 3, 0, -2, -3, 0, 4};
        rowsAre(x, 0, numbers, values, v -> x.set(0, 0, v));
        rowsAre(x, 1, numbers, values, v -> x.setStatic(1, 0, v));
        x.watch(0, 1, condition);
        x.watch(1, 1, condition);
        long[] objects = {-1, 0, 0, 2, 1, -1, -1, 1, 0};
        rowsAre(x, 2, links, objects, v -> x.set(1, 1, v));
        rowsAre(x, 3, links, objects, v -> x.setStatic(1, 1, v));
    }

    interface Write {
        int to(long value);
    }

    private static void rowsAre(HeapWorks x, int watch, String due, long[] values, Write write) {
        StringBuilder got = new StringBuilder();
        int first = x.about(5);
        for (int k = 0; k < values.length; k++) {
            int w = write.to(values[k]);
            int rows = x.rows(watch);
            if (rows > 0 && x.row(watch, rows - 1, 0) == w) {
                got.append(w - first).append(' ');
                Check.same("behind", x.row(watch, rows - 1, 3), values[k]);
                Check.same("before", x.row(watch, rows - 1, 2), k > 0 ? values[k - 1] : watch < 2 ? 0 : -1);
            }
        }
        Check.same("watch " + watch + " has rows of " + got + " and not of " + due, got.toString().trim().equals(due), true);
    }

    private static void conditions() {
        Document d = Document.terms();
        d.says("with a CONDITION: 0 each write,", c -> watched(c, 0, "0 1 2 3 4 5 6 7 8", "0 1 2 3 4 5 6 7 8"));
        d.says("1 the value becomes another one,", c -> watched(c, 1, "1 3 4 5 6 7 8", "1 3 4 5 7 8"));
        d.says("2 it becomes 0 or null and was not,", c -> watched(c, 2, "4 7", "5"));
        d.says("3 it becomes greater (a LINK: from null to an object).", c -> {
            watched(c, 3, "1 7 8", "1 7");
            Check edges = new Check();
            edges.x.make(24, 1);
            edges.type("L");
            edges.field(0, "l", 4);
            int o = edges.x.make(0, 0);
            edges.x.watch(0, 0, 3);
            edges.x.set(o, 0, Long.MIN_VALUE);
            Check.same("smaller", edges.x.rows(0), 0);
            edges.x.set(o, 0, Long.MAX_VALUE);
            Check.same("greater, though the difference wraps", edges.x.rows(0), 1);
            edges.x.set(o, 0, Long.MIN_VALUE);
            Check.same("smaller, though the difference wraps", edges.x.rows(0), 1);
        });
    }

    private static void watchRows() {
        Document d = Document.terms();
        d.says("Each has its last 6 ROWS: the write, the object (NONE of a static), the value before and behind.", c -> {
            HeapWorks x = nodes(c, 2);
            c.type("S");
            c.field(1, "s", 3, -1, true);
            x.watch(0, 0, 0);
            x.watch(1, 0, 0);
            for (int k = 0; k < 6; k++) {
                x.set(k % 2, 0, 10 + k);
                Check.same("rows", x.rows(0), k + 1);
            }
            for (int k = 0; k < 6; k++) {
                row(x, 0, k, k, k % 2, k < 2 ? 0 : 8 + k, 10 + k);
            }
            for (int k = 6; k < 11; k++) {
                x.set(k % 2, 0, 10 + k);
                Check.same("the last six", x.rows(0), 6);
                for (int r = 0; r < 6; r++) {
                    int w = k - 5 + r;
                    row(x, 0, r, w, w % 2, w < 2 ? 0 : 8 + w, 10 + w);
                }
            }
            x.setStatic(1, 0, 4);
            row(x, 1, 0, 11, -1, 0, 4);
            Check.same("the other one stays", x.row(0, 5, 0), 10);
        });
        d.says("(An undoing gives no row and takes none.)", c -> {
            HeapWorks x = nodes(c, 1);
            for (int condition = 0; condition < 4; condition++) {
                x.watch(0, 0, condition);
            }
            x.set(0, 0, 5);
            x.set(0, 0, 0);
            x.set(0, 0, 4);
            int[] due = {3, 3, 1, 2};
            for (int undo = 0; undo < 4; undo++) {
                for (int w = 0; w < 4; w++) {
                    Check.same("watch " + w, x.rows(w), due[w]);
                }
                x.undo();
            }
            Check.same("a later write", x.set(0, 0, 1), 3);
            row(x, 0, 3, 3, 0, 0, 1);
        });
    }

    private static void promisesTold() {
        Document d = Document.terms();
        d.says("PROMISES, at most 3: questions that must hold (see QUESTIONS);", c -> {
            for (int k = 0; k < 3; k++) {
                Check.same("promise", told(c, k == 1 ? "1 = 2" : "1 < 2"), k);
            }
            Check.refused("a 4th", Check.STATE, () -> told(c, "true"));
            Check.same("3", c.x.about(10), 3);
            Check.same("holds", c.x.broken(0), -2);
            Check.same("does not", c.x.broken(1), -1);
            Check.same("holds", c.x.broken(2), -2);
        });
        d.says("worked out, over the picture that would be taken then, behind each set() and setStatic(),", c -> {
            HeapWorks x = nodes(c, 3);
            c.type("S");
            c.field(1, "s", 5, -1, true);
            x.root(0, true);
            x.take(0);
            x.set(2, 0, 100);
            told(c, "each(y in things : y.n < 100)");
            told(c, "count(y in things) < 3");
            Check.same("what is not reached does not count", x.broken(0), -2);
            x.root(2, true);
            Check.same("a root alone is not looked at", x.broken(0), -2);
            x.root(2, false);
            x.set(0, 1, 1);
            Check.same("two things", x.broken(1), -2);
            x.set(0, 2, 2);
            Check.same("a set()", x.broken(0), 2);
            Check.same("a set()", x.broken(1), 2);
            Check.same("a picture that was taken stays", x.picture(0, 0), 1);
            told(c, "count(y in own S) = 0");
            x.set(0, 0, 5);
            x.setStatic(1, 0, x.make(1, 0));
            Check.same("a setStatic()", x.broken(2), 4);
        });
        d.says("behind a swap() that wrote (once, behind its roots: its last write's number),", c -> {
            HeapWorks x = nodes(c, 3);
            c.type("S");
            c.field(1, "s", 5, -1, true);
            c.field(1, "t", 5, -1, true);
            x.set(0, 0, 1);
            x.set(1, 0, 2);
            x.set(0, 1, 1);
            x.root(0, true);
            // in the midst, thing 0 is object 0 and links to itself
            told(c, "thing 0.n = 2 or thing 0.n + thing 0.a.n = 3");
            Check.same("one write", x.swap(0, 1), 1);
            Check.same("behind its roots", x.broken(0), -2);
            x.root(1, false);
            x.set(0, 1, -1);
            x.setStatic(1, 0, 0);
            x.setStatic(1, 1, 1);
            told(c, "count(y in things) = 2");
            Check.same("two writes", x.swap(0, 1), 2);
            Check.same("between them one thing is left, behind them two", x.broken(1), -2);
            told(c, "thing 0.n = 2");
            int first = x.about(5);
            Check.same("two writes", x.swap(0, 1), 2);
            Check.same("the last one's number", x.broken(2), first + 1);
            Check single = new Check();
            HeapWorks y = nodes(single, 3);
            y.set(1, 0, 7);
            y.root(0, true);
            y.set(0, 1, 1);
            told(single, "thing 0.a.n = 7");
            Check.same("one write", y.swap(1, 2), 1);
            Check.same("it broke it", y.broken(0), 2);
            Check none = new Check();
            HeapWorks z = nodes(none, 2);
            z.set(1, 0, 7);
            z.root(0, true);
            told(none, "thing 0.n = 0");
            Check.same("no write", z.swap(0, 1), 0);
            z.take(0);
            Check.same("the root is another one", z.thing(0, 0, 0), 1);
            Check.same("but nothing looks", z.broken(0), -2);
        });
        d.says("and when they are told;", c -> {
            HeapWorks x = nodes(c, 1);
            told(c, "count(y in things) = 1");
            Check.same("not yet", x.broken(0), -1);
            x.root(0, true);
            told(c, "count(y in things) = 1");
            Check.same("now", x.broken(1), -2);
        });
    }

    private static void promisesBroken() {
        Document d = Document.terms();
        d.says("BROKEN by the first of these behind which its answer is not true (also as it is SPENT);", c -> {
            HeapWorks x = nodes(c, 1);
            int many = x.make(29, 60);
            x.root(0, true);
            x.root(many, true);
            told(c, "thing 0.n < 5");
            told(c, "1 / thing 0.n = 0 or thing 0.n < 10");
            told(c, "each(u in slots thing 1 : each(v in slots thing 1 : each(w in slots thing 1 : true)))");
            for (int k = 0; k < 3; k++) {
                Check.same("holds", x.broken(k), k == 1 ? -1 : -2);
            }
            x.set(0, 0, 4);
            Check.same("holds", x.broken(0), -2);
            x.set(0, 0, 5);
            Check.same("broken", x.broken(0), 1);
            x.set(0, 0, 1);
            x.set(0, 0, 6);
            Check.same("by the first", x.broken(0), 1);
            int spent = -1;
            for (int k = 0; k < 60 && spent < 0; k++) {
                int w = x.set(many, k, 0);
                // 3 nodes and n things, each with 3 nodes and n things, each with 3 nodes and n things of 1 node each
                long n = k + 1;
                long meter = 3 + n * (1 + 3 + n * (1 + 3 + n * 2));
                spent = meter > 30000 ? w : -1;
                Check.same(n + " things", x.broken(2), spent < 0 ? -2 : spent);
            }
            Check.same("it was spent", spent > 0, true);
            x.set(many, 0, -1);
            Check.same("by the first", x.broken(2), spent);
        });
        d.says("what was so when it was told is BROKEN by NONE, at once.", c -> {
            HeapWorks x = nodes(c, 1);
            told(c, "false");
            told(c, "1");
            told(c, "thing 0.n = 0");
            for (int k = 0; k < 3; k++) {
                Check.same("NONE", x.broken(k), -1);
            }
            x.root(0, true);
            x.set(0, 0, 0);
            Check.same("it stays so, though it is true now", x.broken(2), -1);
        });
    }

    private static void swapping() {
        Document d = Document.terms();
        d.says("SWAPPING two objects: each slot and static that links to one links to the other then,", c -> {
            HeapWorks x = nodes(c, 4);
            c.type("S");
            c.field(1, "s", 5, -1, true);
            c.field(1, "i", 4, -1, true);
            c.field(1, "t", 5, -1, true);
            int array = x.make(29, 3);
            int[][] writes = {{0, 0, 1}, {0, 1, 0}, {0, 2, 1}, {1, 0, 0}, {1, 1, 1}, {1, 2, 2}, {2, 1, 0}, {array, 0, 1},
                {array, 2, 0}};
            for (int[] w : writes) {
                x.set(w[0], w[1], w[2]);
            }
            x.setStatic(1, 0, 0);
            x.setStatic(1, 1, 1);
            x.setStatic(1, 2, 1);
            Check.same("writes", x.swap(0, 1), 8);
            long[][] due = {{1, 1, 0}, {0, 0, 2}, {0, 1, -1}, {0, -1, -1}, {0, -1, 1}};
            for (int o = 0; o < due.length; o++) {
                for (int k = 0; k < 3; k++) {
                    Check.same("slot " + k + " of " + o, x.get(o, k), due[o][k]);
                }
            }
            Check.same("a static", x.getStatic(1, 0), 1);
            Check.same("a number stays", x.getStatic(1, 1), 1);
            Check.same("a static", x.getStatic(1, 2), 0);
            Check.same("back again", x.swap(1, 0), 8);
            for (int[] w : writes) {
                Check.same("slot " + w[1] + " of " + w[0], x.get(w[0], w[1]), w[2]);
            }
            // the very first field; and objects that went have no slots, though others may have their places now
            Check first = new Check();
            HeapWorks y = first.x;
            first.type("S");
            first.field(0, "s", 5, -1, true);
            for (int k = 0; k < 4; k++) {
                y.make(29, 1);
            }
            y.root(2, true);
            y.root(3, true);
            y.set(2, 0, 3);
            y.setStatic(0, 0, 2);
            Check.same("two go", y.collect(), 2);
            Check.same("two writes", y.swap(2, 3), 2);
            Check.same("a slot", y.get(2, 0), 2);
            Check.same("a static", y.getStatic(0, 0), 3);
        });
        d.says("told roots likewise, behind all writes (they keep their places);", c -> {
            HeapWorks x = nodes(c, 5);
            x.root(0, true);
            x.root(1, true);
            x.root(2, true);
            Check.same("no writes", x.swap(2, 0), 0);
            roots(x, 2, 1, 0);
            x.swap(1, 4);
            roots(x, 2, 4, 0);
            x.swap(3, 1);
            roots(x, 2, 4, 0);
            x.set(3, 1, 2);
            Check.same("one write", x.swap(2, 0), 1);
            roots(x, 0, 4, 2);
        });
        d.says("refused if one would not fit somewhere;", c -> {
            HeapWorks x = c.x;
            c.type("A");
            c.type("B", 0, 0);
            c.type("H");
            c.link(2, "a", 0);
            c.link(2, "b", 1);
            c.field(2, "s", 5, 1, true);
            int a = x.make(0, 0);
            int b = x.make(1, 0);
            int h = x.make(2, 0);
            int ofB = x.make(31, 2);
            x.set(h, 0, b);
            x.set(h, 1, b);
            Check.refused("a field", Check.ARGUMENT, () -> x.swap(a, b));
            Check.refused("the other way", Check.ARGUMENT, () -> x.swap(b, a));
            x.set(h, 1, -1);
            x.setStatic(2, 0, b);
            Check.refused("a static", Check.ARGUMENT, () -> x.swap(a, b));
            x.setStatic(2, 0, -1);
            x.set(ofB, 1, b);
            Check.refused("an element", Check.ARGUMENT, () -> x.swap(a, b));
            Check.same("what was refused wrote nothing", x.get(h, 0), b);
            x.set(ofB, 1, -1);
            Check.same("now it fits", x.swap(a, b), 1);
            Check.same("it", x.get(h, 0), a);
            Check first = new Check();
            first.type("S");
            first.field(0, "s", 5, 0, true);
            first.type("T");
            first.x.make(0, 0);
            first.x.make(1, 0);
            first.x.setStatic(0, 0, 0);
            Check.refused("the very first static", Check.ARGUMENT, () -> first.x.swap(0, 1));
        });
        d.says("writes: objects by number, slots in order, then statics.", c -> {
            HeapWorks x = nodes(c, 3);
            c.type("S");
            c.field(1, "s", 5, -1, true);
            c.field(1, "t", 5, -1, true);
            c.type("T");
            c.field(2, "u", 5, -1, true);
            x.set(2, 2, 0);
            x.set(2, 1, 1);
            x.set(0, 1, 1);
            x.setStatic(2, 0, 0);
            x.setStatic(1, 1, 1);
            x.setStatic(1, 0, 0);
            int[][] watched = {{0, 1}, {0, 2}, {1, 0}, {1, 1}, {2, 0}};
            for (int[] w : watched) {
                x.watch(w[0], w[1], 0);
            }
            int first = x.about(5);
            Check.same("writes", x.swap(0, 1), 6);
            Check.same("numbered", x.about(5), first + 6);
            row(x, 0, 0, first, 0, 1, 0);
            row(x, 0, 1, first + 1, 2, 1, 0);
            row(x, 1, 0, first + 2, 2, 0, 1);
            row(x, 2, 0, first + 3, -1, 0, 1);
            row(x, 3, 0, first + 4, -1, 1, 0);
            row(x, 4, 0, first + 5, -1, 0, 1);
            for (int k = 5; k >= 0; k--) {
                Check.same("undone one by one", x.undo(), first + k);
            }
            Check.same("as before", x.get(0, 1), 1);
            Check.same("as before", x.getStatic(2, 0), 0);
        });
    }

    private static void roots(HeapWorks x, int... due) {
        Check.same("roots", x.about(4), due.length);
        x.take(0);
        for (int k = 0; k < due.length; k++) {
            Check.same("root " + k, x.thing(0, k, 0), due[k]);
        }
    }

    private static void promise19() {
        Document.promise(19).says("The latest write is undone: its number; NONE if there is none to undo.", c -> {
            HeapWorks x = nodes(c, 1);
            Check.same("none", x.undo(), -1);
            x.set(0, 0, 3);
            x.set(0, 1, 0);
            Check.same("the latest", x.undo(), 1);
            Check.same("null again", x.get(0, 1), -1);
            Check.same("the other one stays", x.get(0, 0), 3);
            Check.same("to be undone", x.about(6), 1);
            Check.same("the first", x.undo(), 0);
            Check.same("0 again", x.get(0, 0), 0);
            Check.same("none", x.undo(), -1);
            Check.same("still none", x.undo(), -1);
            Check.same("none to be undone", x.about(6), 0);
        });
    }

    private static void promise20() {
        Document d = Document.promise(20);
        d.says("Two objects are SWAPPED: how many writes.", c -> {
            HeapWorks x = nodes(c, 3);
            Check.same("none", x.swap(0, 1), 0);
            x.set(2, 1, 0);
            Check.same("one", x.swap(0, 1), 1);
            x.set(2, 2, 0);
            Check.same("two", x.swap(0, 1), 2);
            Check.same("writes", x.about(5), 5);
            Check wide = new Check();
            HeapWorks y = wide.x;
            y.make(29, 60);
            y.make(29, 60);
            for (int k = 0; k < 120; k++) {
                y.set(k / 60, k % 60, k % 2);
            }
            Check.same("120", y.swap(0, 1), 120);
            Check.same("100 can be undone", y.about(6), 100);
        });
        d.says("NoSuchElementException: no such object.", c -> {
            HeapWorks x = nodes(c, 2);
            x.root(0, true);
            x.collect();
            int[] none = {-1, 1, 2, 400, LEAST, MOST};
            for (int o : none) {
                Check.refused("swap 0, " + o, Check.ELEMENT, () -> x.swap(0, o));
                Check.refused("swap " + o + ", 0", Check.ELEMENT, () -> x.swap(o, 0));
                Check.refused("ahead of being one", Check.ELEMENT, () -> x.swap(o, o));
            }
        });
        d.says("IllegalArgumentException: it is one, or something would not FIT.", c -> {
            HeapWorks x = c.x;
            c.type("A");
            c.type("B");
            x.make(0, 0);
            x.make(1, 0);
            int array = x.make(30, 1);
            Check.refused("it is one", Check.ARGUMENT, () -> x.swap(0, 0));
            Check.refused("it is one", Check.ARGUMENT, () -> x.swap(1, 1));
            Check.same("nothing links to them", x.swap(0, 1), 0);
            x.set(array, 0, 0);
            Check.refused("no B there", Check.ARGUMENT, () -> x.swap(0, 1));
            Check.refused("no B there", Check.ARGUMENT, () -> x.swap(1, 0));
            Check.refused("no array there", Check.ARGUMENT, () -> x.swap(array, 0));
        });
    }

    private static void promise23() {
        Document d = Document.promise(23);
        d.says("Own field k of a class is WATCHED: the watch's number.", c -> {
            HeapWorks x = nodes(c, 1);
            Check.same("the first", x.watch(0, 0, 1), 0);
            Check.same("the same once more", x.watch(0, 0, 1), 1);
            Check.same("the last field", x.watch(0, 2, 0), 2);
            x.set(0, 0, 1);
            x.set(0, 2, 0);
            Check.same("rows", x.rows(0) * 100 + x.rows(1) * 10 + x.rows(2), 111);
        });
        d.says("NoSuchElementException: no such field.", c -> {
            HeapWorks x = nodes(c, 1);
            c.type("B", 0, 0);
            int[][] none = {{0, 3}, {0, -1}, {0, LEAST}, {0, MOST}, {1, 0}, {2, 0}, {-1, 0}, {16, 0}, {LEAST, 0}, {MOST, 0}};
            for (int[] n : none) {
                Check.refused("field " + n[0] + ", " + n[1], Check.ELEMENT, () -> x.watch(n[0], n[1], 0));
                Check.refused("ahead of a condition", Check.ELEMENT, () -> x.watch(n[0], n[1], 4));
            }
            Check.same("no watch", x.about(9), 0);
        });
        d.says("IllegalArgumentException: no such condition.", c -> {
            HeapWorks x = nodes(c, 1);
            int[] none = {-1, 4, LEAST, MOST};
            for (int condition : none) {
                Check.refused("condition " + condition, Check.ARGUMENT, () -> x.watch(0, 0, condition));
            }
            for (int k = 0; k < 6; k++) {
                x.watch(0, 0, 3);
            }
            Check.refused("ahead of a 7th", Check.ARGUMENT, () -> x.watch(0, 0, 4));
        });
        d.says("IllegalStateException: there are 6.", c -> {
            HeapWorks x = nodes(c, 1);
            for (int k = 0; k < 6; k++) {
                x.watch(0, 0, k % 4);
            }
            Check.refused("a 7th", Check.STATE, () -> x.watch(0, 1, 0));
            Check.same("6", x.about(9), 6);
        });
    }

    private static void promises24And25() {
        Document.promise(24).says("How many rows a watch has (0 .. 6); NONE if there is none such.", c -> {
            HeapWorks x = nodes(c, 1);
            Check.same("no watch at all", x.rows(0), -1);
            x.watch(0, 0, 0);
            for (int k = 0; k < 9; k++) {
                Check.same("rows", x.rows(0), Math.min(k, 6));
                x.set(0, 0, k);
            }
            int[] none = {-1, 1, 6, LEAST, MOST};
            for (int watch : none) {
                Check.same("watch " + watch, x.rows(watch), -1);
            }
        });
        Document d = Document.promise(25);
        d.says("Of row k of a watch, the oldest first: the write (what = 0), the object (1), the value before (2) and behind "
            + "(3).", c -> {
            HeapWorks x = nodes(c, 2);
            x.watch(0, 0, 0);
            x.set(1, 0, -9);
            x.set(0, 1, 1);
            x.set(1, 0, 8);
            row(x, 0, 0, 0, 1, 0, -9);
            row(x, 0, 1, 2, 1, -9, 8);
            Check wide = new Check();
            wide.type("L");
            wide.field(0, "l", 4);
            wide.x.make(0, 0);
            wide.x.watch(0, 0, 1);
            wide.x.set(0, 0, Long.MIN_VALUE);
            wide.x.set(0, 0, Long.MAX_VALUE);
            row(wide.x, 0, 1, 1, 0, Long.MIN_VALUE, Long.MAX_VALUE);
        });
        d.says("NoSuchElementException: none such, or for another what.", c -> {
            HeapWorks x = nodes(c, 1);
            Check.refused("no watch at all", Check.ELEMENT, () -> x.row(0, 0, 0));
            x.watch(0, 0, 0);
            Check.refused("no row at all", Check.ELEMENT, () -> x.row(0, 0, 0));
            x.set(0, 0, 1);
            int[][] none = {{0, 1, 0}, {0, -1, 0}, {0, 6, 0}, {0, LEAST, 0}, {0, MOST, 0}, {1, 0, 0}, {-1, 0, 0}, {6, 0, 0},
                {LEAST, 0, 0}, {MOST, 0, 0}, {-1, -1, 0}, {0, 0, 4}, {0, 0, -1}, {0, 0, LEAST}, {0, 0, MOST}};
            for (int[] n : none) {
                Check.refused("row " + n[0] + ", " + n[1] + ", " + n[2], Check.ELEMENT, () -> x.row(n[0], n[1], n[2]));
            }
            for (int k = 0; k < 8; k++) {
                x.set(0, 0, k);
            }
            Check.same("the sixth", x.row(0, 5, 3), 7);
            Check.refused("no seventh", Check.ELEMENT, () -> x.row(0, 6, 0));
        });
    }

    private static void promise26() {
        Document d = Document.promise(26);
        d.says("The tape, which is one E (it stays), is a PROMISE: its number.", c -> {
            Check.same("the first", told(c, " 1 + 1 = 2 "), 0);
            Check.same("the tape stays", c.x.about(0), 11);
            Check.same("its letter", c.x.letter(1), '1');
            Check.same("the same once more", c.x.promise(), 1);
            Check.same("promises", c.x.about(10), 2);
            c.x.wipe();
            Check.same("what it says is kept", c.x.broken(0), -2);
            c.text("true true");
            Check.refused("two E", Check.ARGUMENT, () -> c.x.promise());
            c.text("things");
            Check.refused("a question", Check.ARGUMENT, () -> c.x.promise());
            Check.same("at its first word", c.x.fault(1), 0);
        });
        d.says("IllegalArgumentException: a FAULT (1 to 4).", c -> {
            HeapWorks x = c.x;
            String[] texts = {"", "1 +", "@", "1 + 1234567890123456789", "it = null", "some(x in things : y = x)",
                Check.repeat("-", 121) + "1", Check.repeat("(", 11) + "1" + Check.repeat(")", 11)};
            int[][] faults = {{1, 0}, {1, 3}, {2, 0}, {2, 4}, {3, 0}, {3, 19}, {4, 120}, {4, 10}};
            for (int k = 0; k < texts.length; k++) {
                c.text(texts[k]);
                Check.refused(texts[k], Check.ARGUMENT, () -> x.promise());
                Check.same(texts[k] + " fault", x.fault(0), faults[k][0]);
                Check.same(texts[k] + " place", x.fault(1), faults[k][1]);
                Check.same("none is told", x.about(10), 0);
            }
            Check.same("a good one", told(c, "true"), 0);
            Check.same("no fault", x.fault(0), 0);
            Check.same("no place", x.fault(1), -1);
        });
        d.says("IllegalStateException (first): there are 3.", c -> {
            told(c, "true");
            told(c, "true");
            c.text("(");
            Check.refused("a fault", Check.ARGUMENT, () -> c.x.promise());
            Check.same("the third", told(c, "true"), 2);
            Check.refused("a 4th", Check.STATE, () -> told(c, "true"));
            Check.refused("a 4th at fault", Check.STATE, () -> told(c, "("));
            Check.same("no fault is told", c.x.fault(0), 0);
            Check.same("3", c.x.about(10), 3);
        });
    }

    private static void promise27() {
        Document d = Document.promise(27);
        d.says("The write that broke a promise; NONE - 1 if none did, NONE if it was broken from the beginning.", c -> {
            HeapWorks x = nodes(c, 1);
            x.root(0, true);
            told(c, "thing 0.n = 0");
            told(c, "thing 0.n = 1");
            Check.same("none did", x.broken(0), -2);
            Check.same("from the beginning", x.broken(1), -1);
            x.set(0, 0, 1);
            Check.same("write 0", x.broken(0), 0);
            Check.same("from the beginning", x.broken(1), -1);
        });
        d.says("NoSuchElementException: none such.", c -> {
            Check.refused("none at all", Check.ELEMENT, () -> c.x.broken(0));
            told(c, "true");
            int[] none = {-1, -2, 1, 3, LEAST, MOST};
            for (int promise : none) {
                Check.refused("promise " + promise, Check.ELEMENT, () -> c.x.broken(promise));
            }
        });
        d.says("(When it is SPENT its answer is not true.)", c -> {
            HeapWorks x = c.x;
            x.make(29, 60);
            for (int k = 0; k < 60; k++) {
                x.set(0, k, 0);
            }
            x.root(0, true);
            String spent = "each(u in slots thing 0 : each(v in slots thing 0 : each(w in slots thing 0 : true)))";
            Check.same("it is told", told(c, spent), 0);
            Check.same("broken at once", x.broken(0), -1);
            Check.same("no fault", x.fault(0), 0);
            Check.same("no place", x.fault(1), -1);
            told(c, "not " + spent);
            Check.same("nor is the contrary true", x.broken(1), -1);
        });
    }
}
