/** Kinds, classes, types, layout and use, word for word: promises 7 to 10. */
final class ClassSentences {
    private static final long[][] EDGES = {{0, 1}, {-128, 127}, {-32768, 32767}, {-2147483648L, 2147483647L},
        {Long.MIN_VALUE, Long.MAX_VALUE}};
    private static final int[] BYTES = {1, 1, 2, 4, 8, 4};

    static void run() {
        kinds();
        classes();
        types();
        fitting();
        slotsAndStatics();
        used();
        layout();
        size();
        promise7();
        promise8();
        promise9();
        promise10();
    }

    private static void kinds() {
        Document d = Document.terms();
        d.says("THE HEAP KINDS of values: 0 BIT (0, 1), 1 BYTE, 2 SHORT, 3 INT, 4 LONG (8, 16, 32, 64 bits with a sign),", c -> {
            HeapWorks x = c.x;
            c.type("A");
            c.type("S");
            for (int kind = 0; kind < 5; kind++) {
                c.field(0, "f" + kind, kind);
                c.field(1, "s" + kind, kind, -1, true);
                x.make(20 + kind, 2);
            }
            int o = x.make(0, 0);
            for (int k = 0; k < 5; k++) {
                int kind = k;
                for (long edge : EDGES[kind]) {
                    x.set(o, kind, edge);
                    Check.same("a field", x.get(o, kind), edge);
                    x.set(kind, 1, edge);
                    Check.same("an element", x.get(kind, 1), edge);
                    x.setStatic(1, kind, edge);
                    Check.same("a static", x.getStatic(1, kind), edge);
                }
                long[] beyond = {EDGES[kind][0] - 1, EDGES[kind][1] + 1, Long.MIN_VALUE, Long.MAX_VALUE, 1L << 32};
                for (long v : kind < 4 ? beyond : new long[0]) {
                    Check.refused("kind " + kind + ": " + v, Check.ARGUMENT, () -> x.set(o, kind, v));
                    Check.refused("kind " + kind + ": " + v, Check.ARGUMENT, () -> x.set(kind, 0, v));
                    Check.refused("kind " + kind + ": " + v, Check.ARGUMENT, () -> x.setStatic(1, kind, v));
                    Check.same("it stays", x.get(o, kind), EDGES[kind][1]);
                }
            }
        });
        d.says("5 LINK (NONE: null, else an object's number);", c -> {
            HeapWorks x = c.x;
            x.make(29, 2);
            x.make(20, 0);
            x.set(0, 0, 1);
            Check.same("an object", x.get(0, 0), 1);
            x.set(0, 0, 0);
            Check.same("object 0", x.get(0, 0), 0);
            x.set(0, 0, -1);
            Check.same("null", x.get(0, 0), -1);
            long[] none = {2, -2, 400, Long.MIN_VALUE, Long.MAX_VALUE, 1L << 32, -1L << 32, (1L << 32) - 1};
            for (long v : none) {
                Check.refused("no object " + v, Check.ARGUMENT, () -> x.set(0, 0, v));
            }
            Check.same("it stays", x.get(0, 0), -1);
        });
        d.says("they take 1, 1, 2, 4, 8, 4 bytes.", c -> {
            for (int kind = 0; kind < 6; kind++) {
                int array = c.x.make(kind == 5 ? 29 : 20 + kind, 8);
                Check.same("eight elements", c.x.object(array, 2), 16 + 8 * BYTES[kind]);
                c.type("K" + kind);
                for (int f = 0; f < 3; f++) {
                    c.field(kind, "f" + f, kind);
                }
                int first = kind == 4 ? 16 : 12;
                for (int f = 0; f < 3; f++) {
                    Check.same("field " + f, c.x.fieldLook(kind, f, 4), first + f * BYTES[kind]);
                }
            }
        });
    }

    private static void classes() {
        Document d = Document.terms();
        d.says("CLASSES, at most 16, have a name,", c -> {
            for (int k = 0; k < 16; k++) {
                Check.same("class", c.type("C" + k), k);
            }
            c.text("C16");
            Check.refused("a 17th", Check.STATE, () -> c.x.type(-1, 0));
            Check.refused("a 17th of another loader", Check.STATE, () -> c.x.type(3, 3));
            Check.same("16", c.x.about(1), 16);
            Check.same("no class 16", c.x.typeLook(16, 0), -1);
        });
        d.says("a LOADER (0 .. 3; two of one loader have two names),", c -> {
            int[] none = {-1, 4, Integer.MIN_VALUE, Integer.MAX_VALUE};
            for (int loader : none) {
                c.text("A");
                Check.refused("loader " + loader, Check.INDEX, () -> c.x.type(-1, loader));
            }
            for (int loader = 0; loader < 4; loader++) {
                Check.same("the same name", c.type("A", -1, loader), loader);
                Check.same("loader", c.x.typeLook(loader, 1), loader);
                int again = loader;
                c.text("A");
                Check.refused("the same name of one loader", Check.STATE, () -> c.x.type(-1, again));
            }
            Check.same("another name", c.type("a", -1, 0), 4);
        });
        d.says("perhaps a PARENT (an earlier class),", c -> {
            c.type("A");
            Check.same("none", c.x.typeLook(0, 0), -1);
            c.text("B");
            Check.refused("itself is none", Check.INDEX, () -> c.x.type(1, 0));
            Check.refused("below NONE", Check.INDEX, () -> c.x.type(-2, 0));
            Check.refused("an array's type", Check.INDEX, () -> c.x.type(30, 0));
            Check.same("an earlier one", c.x.type(0, 0), 1);
            Check.same("it", c.x.typeLook(1, 0), 0);
            Check.same("of one that has a parent", c.type("D", 1, 0), 2);
            Check.same("two heirs", c.type("E", 0, 0), 3);
        });
        d.says("and at most 6 own FIELDS, some of them STATIC,", c -> {
            c.type("A");
            for (int k = 0; k < 6; k++) {
                Check.same("field", c.field(0, "f" + k, k, -1, k % 2 == 0), k);
            }
            c.text("f6");
            Check.refused("a 7th", Check.STATE, () -> c.x.field(0, 0, 0, false));
            Check.refused("a 7th that is STATIC", Check.STATE, () -> c.x.field(0, 0, 0, true));
            Check.same("slots", c.x.typeLook(0, 3), 3);
            Check.same("statics", c.x.typeLook(0, 6), 3);
            c.type("B", 0, 0);
            for (int k = 0; k < 6; k++) {
                Check.same("the heir's own", c.field(1, "g" + k, 0), k);
            }
            Check.same("slots", c.x.typeLook(1, 3), 9);
        });
        d.says("each with a name (no two own ones of a class have the same),", c -> {
            c.type("A");
            c.field(0, "f", 0);
            c.text("f");
            Check.refused("the same", Check.STATE, () -> c.x.field(0, 3, 0, false));
            Check.refused("the same, STATIC", Check.STATE, () -> c.x.field(0, 3, 0, true));
            Check.same("another one", c.field(0, "F", 0, -1, true), 1);
            c.text("F");
            Check.refused("the name of a STATIC one", Check.STATE, () -> c.x.field(0, 3, 0, false));
            c.type("B", 0, 0);
            Check.same("the parent's name", c.field(1, "f", 3), 0);
            Check.same("a class's name", c.field(1, "B", 3), 1);
        });
        d.says("a kind, and, if it is a LINK, a TYPE.", c -> {
            c.type("A");
            for (int kind = 0; kind < 6; kind++) {
                c.field(0, "f" + kind, kind, 20, false);
                Check.same("kind", c.x.fieldLook(0, kind, 0), kind);
                Check.same("type", c.x.fieldLook(0, kind, 1), kind == 5 ? 20 : -1);
            }
        });
        d.says("A class IS itself and what its parent IS.", c -> {
            c.type("A");
            c.type("B", 0, 0);
            c.type("C", 1, 0);
            c.type("D", 0, 0);
            boolean[][] is = {{true, false, false, false}, {true, true, false, false}, {true, true, true, false},
                {true, false, false, true}};
            for (int k = 0; k < 4; k++) {
                c.x.root(c.x.make(k, 0), true);
                c.x.take(0);
                for (int j = 0; j < 4; j++) {
                    c.value("from thing " + k + " get it is " + "ABCD".charAt(j), 1, is[k][j] ? 1 : 0);
                }
            }
            for (int j = 0; j < 4; j++) {
                int array = c.x.make(30 + j, 1);
                for (int k = 0; k < 4; k++) {
                    int object = k;
                    if (is[k][j]) {
                        Check.same("it fits", c.x.set(array, 0, object) >= 0, true);
                    } else {
                        Check.refused("class " + k + " is not " + j, Check.ARGUMENT, () -> c.x.set(array, 0, object));
                    }
                }
            }
        });
    }

    private static boolean isType(int type, int classes) {
        return type >= 0 && type < classes || type >= 20 && type <= 24 || type == 29
            || type >= 30 && type < 30 + classes;
    }

    private static void types() {
        Document d = Document.terms();
        d.says("TYPES: 0 .. 15 a class; 20 .. 24 arrays of BIT .. LONG; 29 arrays of any links; 30 + k arrays of links of "
            + "class k;", c -> {
            for (int classes = 0; classes <= 16; classes += classes == 2 ? 14 : 1) {
                Check fresh = new Check();
                for (int k = 0; k < classes; k++) {
                    fresh.type("C" + k);
                }
                for (int t = -3; t < 60; t++) {
                    int type = t;
                    if (isType(type, classes)) {
                        int o = fresh.x.make(type, 1);
                        Check.same("type", fresh.x.object(o, 0), type);
                        Check.same("length", fresh.x.object(o, 1), type >= 20 ? 1 : 0);
                    } else {
                        Check.refused(classes + " classes, type " + type, Check.ARGUMENT, () -> fresh.x.make(type, 1));
                    }
                }
            }
        });
        d.says("NONE: any object.", c -> {
            c.type("A");
            c.link(0, "l", -1);
            int o = c.x.make(0, 0);
            int[] types = {0, 20, 24, 29, 30};
            for (int type : types) {
                int other = c.x.make(type, 1);
                c.x.set(o, 0, other);
                Check.same("it fits", c.x.get(o, 0), other);
            }
        });
        d.says("OBJECTS, numbered as they are made, at most 400 ever,", c -> {
            for (int k = 0; k < 400; k++) {
                Check.same("number", c.x.make(20 + k % 5, k % 3), k);
                if (k == 200) {
                    Check.same("all go", c.x.collect(), 201);
                }
            }
            Check.refused("a 401st", Check.STATE, () -> c.x.make(20, 0));
            Check.same("199 are there", c.x.about(2), 199);
            c.x.collect();
            Check.refused("a 401st ever", Check.STATE, () -> c.x.make(20, 0));
            Check.same("no object 400", c.x.object(400, 0), -1);
        });
        d.says("are of a class, or arrays (types 20 .. 24, 29, 30 + k), with a length 0 .. 60.", c -> {
            c.type("A");
            int[] types = {20, 21, 22, 23, 24, 29, 30};
            for (int type : types) {
                int[] none = {-1, 61, Integer.MIN_VALUE, Integer.MAX_VALUE};
                for (int length : none) {
                    Check.refused("length " + length, Check.ARGUMENT, () -> c.x.make(type, length));
                }
                int[] lengths = {0, 1, 60};
                for (int length : lengths) {
                    int o = c.x.make(type, length);
                    Check.same("length", c.x.object(o, 1), length);
                    Check.refused("no slot behind", Check.ELEMENT, () -> c.x.get(o, length));
                    if (length > 0) {
                        Check.same("the last slot", c.x.get(o, length - 1), type < 29 ? 0 : -1);
                    }
                }
            }
            int[] any = {-1, 0, 61, Integer.MIN_VALUE, Integer.MAX_VALUE};
            for (int length : any) {
                Check.same("a class has none", c.x.object(c.x.make(0, length), 1), 0);
            }
        });
    }

    private static void fitting() {
        Document d = Document.terms();
        // classes A, its heir B, its heir C, and D; an object of each type
        int[] objects = {0, 1, 2, 3, 20, 21, 22, 23, 24, 29, 30, 31, 32, 33};
        d.says("An object FITS a type: NONE; a class that its class IS; its own array type; 29 and 30 + j, if it is of 30 + k "
            + "and class k IS j (29: always).", c -> {
            String[] due = {
                "-1 0", "-1 0 1", "-1 0 1 2", "-1 3", "-1 20", "-1 21", "-1 22", "-1 23", "-1 24", "-1 29",
                "-1 29 30", "-1 29 30 31", "-1 29 30 31 32", "-1 29 33"};
            int[] wanted = {-1, 0, 1, 2, 3, 20, 21, 22, 23, 24, 29, 30, 31, 32, 33};
            HeapWorks x = family(c);
            for (int f = 0; f < wanted.length; f++) {
                c.link(4 + f / 6, "f" + f % 6, wanted[f]);
                c.field(7 + f / 6, "s" + f % 6, 5, wanted[f], true);
            }
            int[] holders = {x.make(4, 0), x.make(5, 0), x.make(6, 0)};
            for (int k = 0; k < objects.length; k++) {
                int o = x.make(objects[k], 1);
                for (int f = 0; f < wanted.length; f++) {
                    int slot = f % 6;
                    int part = f / 6;
                    boolean fits = (" " + due[k] + " ").contains(" " + wanted[f] + " ");
                    if (fits) {
                        x.set(holders[part], slot, o);
                        Check.same("it is there", x.get(holders[part], slot), o);
                        x.setStatic(7 + part, slot, o);
                        Check.same("it is there", x.getStatic(7 + part, slot), o);
                    } else {
                        String what = "type " + objects[k] + " in " + wanted[f];
                        Check.refused(what, Check.ARGUMENT, () -> x.set(holders[part], slot, o));
                        Check.refused(what, Check.ARGUMENT, () -> x.setStatic(7 + part, slot, o));
                    }
                }
            }
        });
        d.says("(An array of type 29 fits 29 alone, but for NONE.)", c -> {
            HeapWorks x = family(c);
            int[] wanted = {-1, 29, 30, 33, 20, 0};
            for (int k = 0; k < wanted.length; k++) {
                c.link(4, "f" + k, wanted[k]);
            }
            int holder = x.make(4, 0);
            int any = x.make(29, 2);
            for (int k = 0; k < wanted.length; k++) {
                int slot = k;
                if (k < 2) {
                    Check.same("it fits", x.set(holder, slot, any), k);
                } else {
                    Check.refused("not " + wanted[k], Check.ARGUMENT, () -> x.set(holder, slot, any));
                }
            }
        });
    }

    private static HeapWorks family(Check c) {
        c.type("A");
        c.type("B", 0, 0);
        c.type("C", 1, 0);
        c.type("D");
        for (int k = 0; k < 6; k++) {
            c.type("H" + k);
        }
        return c.x;
    }

    private static void slotsAndStatics() {
        Document d = Document.terms();
        d.says("SLOTS of an object: the fields of its class that are not STATIC, the parent's (and its parent's ..) first, in "
            + "the order told; of an array its elements.", c -> {
            c.type("A");
            c.field(0, "a", 4);
            c.field(0, "s", 4, -1, true);
            c.field(0, "b", 0);
            c.type("B", 0, 0);
            c.field(1, "t", 0, -1, true);
            c.field(1, "a", 1);
            c.type("C", 1, 0);
            c.field(2, "z", 2);
            c.field(2, "c", 3);
            int o = c.x.make(2, 0);
            // a LONG, a BIT, a BYTE, a SHORT, an INT
            int[] kinds = {4, 0, 1, 2, 3};
            for (int k = 0; k < 5; k++) {
                int slot = k;
                c.x.set(o, slot, EDGES[kinds[k]][1]);
                if (kinds[k] < 4) {
                    Check.refused("its kind", Check.ARGUMENT, () -> c.x.set(o, slot, EDGES[kinds[slot]][1] + 1));
                }
            }
            Check.refused("no slot 5", Check.ELEMENT, () -> c.x.set(o, 5, 0));
            Check.same("slots of A", c.x.typeLook(0, 3), 2);
            Check.same("slots of B", c.x.typeLook(1, 3), 3);
            Check.same("slots of C", c.x.typeLook(2, 3), 5);
            int array = c.x.make(20, 3);
            Check.same("the last element", c.x.set(array, 2, 1), 5);
            Check.refused("no element 3", Check.ELEMENT, () -> c.x.set(array, 3, 1));
            Check.refused("an empty array has none", Check.ELEMENT, () -> c.x.get(c.x.make(20, 0), 0));
        });
        d.says("STATICS of a class: its own STATIC fields, in order.", c -> {
            c.type("A");
            c.field(0, "s", 0, -1, true);
            c.field(0, "f", 3);
            c.field(0, "t", 1, -1, true);
            c.type("B", 0, 0);
            c.field(1, "u", 2, -1, true);
            c.x.setStatic(0, 0, 1);
            c.x.setStatic(0, 1, 127);
            c.x.setStatic(1, 0, 32767);
            Check.refused("the first is a BIT", Check.ARGUMENT, () -> c.x.setStatic(0, 0, 2));
            Check.refused("the second a BYTE", Check.ARGUMENT, () -> c.x.setStatic(0, 1, 128));
            Check.refused("no third", Check.ELEMENT, () -> c.x.getStatic(0, 2));
            Check.refused("the heir has one of its own", Check.ELEMENT, () -> c.x.getStatic(1, 1));
            Check.same("it", c.x.getStatic(1, 0), 32767);
        });
        d.says("All values are 0 or null at first.", c -> {
            c.type("A");
            for (int kind = 0; kind < 6; kind++) {
                c.field(0, "f" + kind, kind);
            }
            c.type("S");
            for (int kind = 0; kind < 6; kind++) {
                c.field(1, "s" + kind, kind, -1, true);
            }
            // so too where objects that went had values
            int full = c.x.make(24, 60);
            int links = c.x.make(29, 60);
            for (int k = 0; k < 60; k++) {
                c.x.set(full, k, -1 - k);
                c.x.set(links, k, full);
            }
            Check.same("they go", c.x.collect(), 2);
            int o = c.x.make(0, 0);
            for (int kind = 0; kind < 6; kind++) {
                Check.same("a field", c.x.get(o, kind), kind == 5 ? -1 : 0);
                Check.same("a static", c.x.getStatic(1, kind), kind == 5 ? -1 : 0);
                int array = c.x.make(kind == 5 ? 29 : 20 + kind, 20);
                for (int k = 0; k < 20; k++) {
                    Check.same("an element", c.x.get(array, k), kind == 5 ? -1 : 0);
                }
            }
        });
        d.says("All slots of all objects that are there: at most 4000.", c -> {
            c.type("A");
            c.field(0, "a", 0);
            c.field(0, "b", 0);
            c.field(0, "s", 0, -1, true);
            for (int k = 0; k < 66; k++) {
                c.x.make(20, 60);
            }
            c.x.make(20, 38);
            Check.same("3998", c.x.about(3), 3998);
            Check.refused("three more", Check.STATE, () -> c.x.make(29, 3));
            Check.same("two more", c.x.make(0, 0), 67);
            Check.same("4000", c.x.about(3), 4000);
            Check.refused("one more", Check.STATE, () -> c.x.make(20, 1));
            Check.refused("an object of two", Check.STATE, () -> c.x.make(0, 0));
            Check.same("one without slots", c.x.make(20, 0), 68);
            c.x.root(5, true);
            Check.same("68 go", c.x.collect(), 68);
            Check.same("60 are left", c.x.about(3), 60);
            Check.same("there is room", c.x.make(20, 60), 69);
        });
    }

    private static void used() {
        Document.terms().says("A class is USED when an object of it or of an heir was made, or it became a parent: it gets no "
            + "new field.", c -> {
            c.type("A");
            c.type("B");
            Check.same("not yet", c.x.typeLook(0, 5), 0);
            c.x.make(30, 3);
            c.field(1, "l", 5, 0, false);
            Check.same("an array or a field does not use it", c.x.typeLook(0, 5), 0);
            c.x.make(0, 0);
            Check.same("an object does", c.x.typeLook(0, 5), 1);
            c.text("f");
            Check.refused("no new field", Check.STATE, () -> c.x.field(0, 0, 0, false));
            Check.refused("no new STATIC one", Check.STATE, () -> c.x.field(0, 0, 0, true));
            c.x.collect();
            Check.refused("not when it went either", Check.STATE, () -> c.x.field(0, 0, 0, false));
            c.type("C", 1, 0);
            Check.same("a parent", c.x.typeLook(1, 5), 1);
            c.text("f");
            Check.refused("no new field", Check.STATE, () -> c.x.field(1, 0, 0, false));
            Check.same("its heir is not used", c.x.typeLook(2, 5), 0);
            Check.same("a new field", c.x.field(2, 0, 0, false), 0);
            c.text("D");
            Check.refused("a refused class", Check.INDEX, () -> c.x.type(2, 4));
            Check.same("does not use its parent", c.x.typeLook(2, 5), 0);
            Check.refused("a refused object", Check.ARGUMENT, () -> c.x.make(3, 0));
            c.x.make(2, 0);
            Check.same("used", c.x.typeLook(2, 5), 1);
        });
    }

    private static void layout() {
        Document d = Document.terms();
        d.says("LAYOUT: an object's first own byte is where its parent's fields end (12 without a parent);", c -> {
            c.type("A");
            c.field(0, "b", 1);
            Check.same("12", c.x.fieldLook(0, 0, 4), 12);
            c.type("B", 0, 0);
            c.field(1, "b", 1);
            Check.same("13", c.x.fieldLook(1, 0, 4), 13);
            c.type("C", 1, 0);
            c.type("D", 2, 0);
            c.field(3, "b", 0);
            Check.same("over one without fields", c.x.fieldLook(3, 0, 4), 14);
            c.type("E");
            c.type("F", 4, 0);
            c.field(5, "i", 3);
            Check.same("a parent without fields", c.x.fieldLook(5, 0, 4), 12);
        });
        d.says("the own fields that are not STATIC, what takes more bytes first, of those alike in order, one behind the other "
            + "from there on,", c -> {
            c.type("A");
            int[] kinds = {1, 2, 5, 4, 3, 0};
            for (int k = 0; k < 6; k++) {
                c.field(0, "f" + k, kinds[k]);
            }
            // LONG 16, LINK 24, INT 28, SHORT 32, BYTE 34, BIT 35
            int[] due = {34, 32, 24, 16, 28, 35};
            for (int k = 0; k < 6; k++) {
                Check.same("field " + k, c.x.fieldLook(0, k, 4), due[k]);
            }
            c.type("B");
            c.field(1, "s", 4, -1, true);
            c.field(1, "a", 0);
            c.field(1, "t", 5, -1, true);
            c.field(1, "b", 3);
            Check.same("STATIC ones have no place", c.x.fieldLook(1, 0, 4), -1);
            Check.same("b", c.x.fieldLook(1, 3, 4), 12);
            Check.same("a", c.x.fieldLook(1, 1, 4), 16);
        });
        d.says("each at the least place, behind the one ahead, that is a multiple of its bytes.", c -> {
            c.type("A");
            c.field(0, "b", 1);
            c.type("B", 0, 0);
            c.field(1, "s", 2);
            Check.same("behind 13", c.x.fieldLook(1, 0, 4), 14);
            c.field(1, "i", 3);
            Check.same("the INT first", c.x.fieldLook(1, 1, 4), 16);
            Check.same("the SHORT behind it", c.x.fieldLook(1, 0, 4), 20);
            c.field(1, "l", 4);
            Check.same("the LONG first", c.x.fieldLook(1, 2, 4), 16);
            Check.same("the INT behind it", c.x.fieldLook(1, 1, 4), 24);
            Check.same("the SHORT behind it", c.x.fieldLook(1, 0, 4), 28);
            c.type("C", 1, 0);
            c.field(2, "b", 0);
            c.field(2, "l", 4);
            Check.same("behind 30 is 32", c.x.fieldLook(2, 1, 4), 32);
            Check.same("what is left free stays so", c.x.fieldLook(2, 0, 4), 40);
        });
    }

    private static void size() {
        Document d = Document.terms();
        d.says("SIZE: the end of the last one (12 without fields), up to a multiple of 8.", c -> {
            c.type("A");
            Check.same("without fields", c.x.typeLook(0, 4), 16);
            int[] due = {16, 16, 16, 16, 24, 24};
            for (int k = 0; k < 6; k++) {
                c.field(0, "f" + k, k < 4 ? 1 : 0);
                Check.same(k + 1 + " bytes", c.x.typeLook(0, 4), due[k]);
            }
            c.type("B");
            c.field(1, "l", 4);
            Check.same("16 .. 24", c.x.typeLook(1, 4), 24);
            c.field(1, "b", 0);
            Check.same("25", c.x.typeLook(1, 4), 32);
            c.type("C");
            c.field(2, "s", 4, -1, true);
            Check.same("a STATIC one alone", c.x.typeLook(2, 4), 16);
            Check.same("an object's", c.x.object(c.x.make(1, 0), 2), 32);
        });
        d.says("(Fields end where the last one ends, ahead of that.)", c -> {
            c.type("A");
            c.field(0, "l", 4);
            c.field(0, "b", 1);
            Check.same("size", c.x.typeLook(0, 4), 32);
            c.type("B", 0, 0);
            c.field(1, "b", 1);
            Check.same("behind 25, not behind 32", c.x.fieldLook(1, 0, 4), 25);
            Check.same("size", c.x.typeLook(1, 4), 32);
        });
        d.says("An array: 16 and its elements' bytes, up to a multiple of 8.", c -> {
            c.type("A");
            for (int kind = 0; kind < 6; kind++) {
                int[] lengths = {0, 1, 2, 7, 8, 9, 60};
                for (int length : lengths) {
                    int due = (16 + length * BYTES[kind] + 7) / 8 * 8;
                    Check.same("kind " + kind, c.x.object(c.x.make(kind == 5 ? 29 : 20 + kind, length), 2), due);
                    if (kind == 5) {
                        Check.same("links of a class", c.x.object(c.x.make(30, length), 2), due);
                    }
                }
            }
        });
    }

    private static void promise7() {
        Document d = Document.promise(7);
        d.says("A new class, whose name the tape is: its number.", c -> {
            for (int k = 0; k < 16; k++) {
                c.text("N" + k);
                Check.same("number", c.x.type(k - 1, k % 4), k);
                Check.same("classes", c.x.about(1), k + 1);
            }
            c.x.root(c.x.make(15, 0), true);
            c.x.take(0);
            Check.same("its name", c.ask(0, "own N15"), 1);
            Check.same("its parent's name", c.ask(0, "all N0"), 1);
            Check.same("no other name", c.ask(0, "own N14"), 0);
        });
        d.says("IndexOutOfBoundsException: the parent is neither NONE nor a class, or the loader is none.", c -> {
            c.type("A");
            int[][] none = {{1, 0}, {-2, 0}, {15, 0}, {16, 0}, {20, 0}, {30, 0}, {Integer.MAX_VALUE, 0},
                {Integer.MIN_VALUE, 0}, {-1, -1}, {-1, 4}, {0, 4}, {0, Integer.MIN_VALUE}, {0, Integer.MAX_VALUE}};
            for (int[] n : none) {
                c.text("B");
                Check.refused("type " + n[0] + ", " + n[1], Check.INDEX, () -> c.x.type(n[0], n[1]));
                c.text("no name");
                Check.refused("ahead of a name", Check.INDEX, () -> c.x.type(n[0], n[1]));
            }
            Check.same("one class", c.x.about(1), 1);
        });
        d.says("IllegalArgumentException: no NAME.", c -> {
            c.text("");
            Check.refused("empty", Check.ARGUMENT, () -> c.x.type(-1, 0));
            for (int k = 0; k < 16; k++) {
                c.type("N" + k);
            }
            c.text("N 0");
            Check.refused("ahead of a full number of classes", Check.ARGUMENT, () -> c.x.type(-1, 0));
            c.text("class");
            Check.refused("a keyword", Check.ARGUMENT, () -> c.x.type(15, 3));
        });
        d.says("IllegalStateException: there are 16, or the loader has that name.", c -> {
            for (int k = 0; k < 15; k++) {
                c.type("N" + k);
            }
            c.text("N14");
            Check.refused("that name", Check.STATE, () -> c.x.type(-1, 0));
            Check.same("of another loader", c.x.type(-1, 1), 15);
            c.text("N15");
            Check.refused("16", Check.STATE, () -> c.x.type(-1, 0));
            Check.same("the tape stays", c.x.about(0), 3);
        });
    }

    private static void promise8() {
        Document d = Document.promise(8);
        d.says("A new own field of a class, whose name the tape is: its number among the own ones.", c -> {
            c.type("A");
            for (int k = 0; k < 3; k++) {
                Check.same("number", c.field(0, "f" + k, 3, -1, k == 1), k);
            }
            c.type("B", 0, 0);
            Check.same("the heir's own are counted alone", c.field(1, "g", 3), 0);
            c.x.root(c.x.make(1, 0), true);
            c.x.set(0, 1, 7);
            c.x.set(0, 2, 8);
            c.x.take(0);
            c.number("it.f2", 7);
            c.number("it.g", 8);
            c.nothing("it.f3");
        });
        d.says("A LINK's TYPE counts for kind 5 alone.", c -> {
            c.type("A");
            int[] odd = {-2, 16, 99, Integer.MIN_VALUE, Integer.MAX_VALUE};
            for (int k = 0; k < 5; k++) {
                int link = odd[k];
                Check.same("kind " + k, c.field(0, "f" + k, k, link, false), k);
                Check.same("it has none", c.x.fieldLook(0, k, 1), -1);
                c.text("g");
                Check.refused("kind 5", Check.ARGUMENT, () -> c.x.field(0, 5, link, false));
            }
        });
        d.says("IndexOutOfBoundsException: no such class.", c -> {
            c.type("A");
            int[] none = {-1, 1, 16, 20, 30, Integer.MIN_VALUE, Integer.MAX_VALUE};
            for (int type : none) {
                c.text("f");
                Check.refused("class " + type, Check.INDEX, () -> c.x.field(type, 0, 0, false));
                c.text("?");
                Check.refused("ahead of a name and a kind", Check.INDEX, () -> c.x.field(type, 9, 0, false));
            }
        });
        d.says("IllegalArgumentException: no NAME, no such kind, or (of a LINK) TYPE.", c -> {
            c.type("A");
            c.text("size");
            Check.refused("no name", Check.ARGUMENT, () -> c.x.field(0, 0, 0, false));
            c.text("");
            Check.refused("no name", Check.ARGUMENT, () -> c.x.field(0, 0, 0, false));
            c.text("f");
            int[] kinds = {-1, 6, Integer.MIN_VALUE, Integer.MAX_VALUE};
            for (int kind : kinds) {
                Check.refused("kind " + kind, Check.ARGUMENT, () -> c.x.field(0, kind, 0, false));
            }
            for (int t = -5; t < 60; t++) {
                int type = t;
                if (type != -1 && !isType(type, 1)) {
                    Check.refused("type " + type, Check.ARGUMENT, () -> c.x.field(0, 5, type, false));
                } else {
                    Check fresh = new Check();
                    fresh.type("A");
                    Check.same("type " + type, fresh.field(0, "f", 5, type, false), 0);
                    Check.same("it", fresh.x.fieldLook(0, 0, 1), type);
                }
            }
            c.x.make(0, 0);
            Check.refused("ahead of a class that is used", Check.ARGUMENT, () -> c.x.field(0, 6, 0, false));
        });
        d.says("IllegalStateException: the class is USED, has 6, or has that name.", c -> {
            c.type("A");
            c.field(0, "f", 0);
            c.text("f");
            Check.refused("that name", Check.STATE, () -> c.x.field(0, 0, 0, false));
            for (int k = 1; k < 6; k++) {
                c.field(0, "f" + k, 0);
            }
            c.text("g");
            Check.refused("6", Check.STATE, () -> c.x.field(0, 0, 0, false));
            c.type("B");
            c.x.make(1, 0);
            c.text("g");
            Check.refused("used", Check.STATE, () -> c.x.field(1, 0, 0, false));
            Check.same("the tape stays", c.x.about(0), 1);
            Check.same("fields", c.x.typeLook(0, 2) * 10 + c.x.typeLook(1, 2), 60);
        });
    }

    private static void promise9() {
        Document d = Document.promise(9);
        d.says("Of a class: its parent (what = 0), loader (1), own fields (2), slots of its objects (3), SIZE of these (4), "
            + "whether it is USED (5; 1, else 0), statics (6), objects of it that are there, without heirs (7).", c -> {
            c.type("A", -1, 2);
            c.field(0, "a", 4);
            c.field(0, "s", 4, -1, true);
            c.type("B", 0, 3);
            c.field(1, "b", 0);
            c.field(1, "t", 5, -1, true);
            c.field(1, "u", 5, -1, true);
            int[][] due = {{-1, 2, 2, 1, 24, 1, 1, 0}, {0, 3, 3, 2, 32, 0, 2, 0}};
            look(c, due);
            c.x.make(1, 0);
            c.x.root(c.x.make(1, 0), true);
            c.x.make(31, 2);
            due[1][5] = 1;
            due[1][7] = 2;
            look(c, due);
            c.x.make(0, 0);
            due[0][7] = 1;
            look(c, due);
            c.x.collect();
            due[0][7] = 0;
            due[1][7] = 1;
            look(c, due);
            c.x.copy(1, 0);
            due[1][7] = 2;
            look(c, due);
        });
        d.says("NONE if there is none such, or for another what.", c -> {
            Check.same("no class at all", c.x.typeLook(0, 0), -1);
            c.type("A");
            int[] whats = {-1, 8, Integer.MIN_VALUE, Integer.MAX_VALUE};
            for (int what : whats) {
                Check.same("what " + what, c.x.typeLook(0, what), -1);
            }
            int[] none = {-1, 1, 16, 20, 30, Integer.MIN_VALUE, Integer.MAX_VALUE};
            for (int type : none) {
                for (int what = 0; what < 8; what++) {
                    Check.same("class " + type, c.x.typeLook(type, what), -1);
                }
            }
        });
    }

    private static void look(Check c, int[][] due) {
        for (int type = 0; type < due.length; type++) {
            for (int what = 0; what < 8; what++) {
                Check.same("class " + type + " what " + what, c.x.typeLook(type, what), due[type][what]);
            }
        }
    }

    private static void promise10() {
        Document d = Document.promise(10);
        d.says("Of own field k of a class: its kind (what = 0), a LINK's TYPE (1; NONE of others, too), whether it is STATIC "
            + "(2), its slot, or number among the statics (3), its first byte in the LAYOUT (4; NONE of a STATIC one).", c -> {
            c.type("A");
            c.field(0, "a", 2);
            c.field(0, "s", 3, -1, true);
            c.type("B", 0, 0);
            c.field(1, "t", 5, 29, true);
            c.field(1, "i", 0, 7, false);
            c.field(1, "l", 5, 0, false);
            c.field(1, "u", 4, -1, true);
            c.field(1, "m", 5, -1, false);
            int[][] due = {{5, 29, 1, 0, -1}, {0, -1, 0, 1, 24}, {5, 0, 0, 2, 16}, {4, -1, 1, 1, -1}, {5, -1, 0, 3, 20}};
            for (int k = 0; k < due.length; k++) {
                for (int what = 0; what < 5; what++) {
                    Check.same("field " + k + " what " + what, c.x.fieldLook(1, k, what), due[k][what]);
                }
            }
            Check.same("the parent's", c.x.fieldLook(0, 0, 4), 12);
            Check.same("the parent's static", c.x.fieldLook(0, 1, 3), 0);
        });
        d.says("NONE if there is none such, or for another what.", c -> {
            c.type("A");
            Check.same("no field at all", c.x.fieldLook(0, 0, 0), -1);
            c.field(0, "a", 2);
            c.type("B", 0, 0);
            int[] whats = {-1, 5, Integer.MIN_VALUE, Integer.MAX_VALUE};
            for (int what : whats) {
                Check.same("what " + what, c.x.fieldLook(0, 0, what), -1);
            }
            int[][] none = {{0, 1}, {0, -1}, {0, 6}, {0, Integer.MAX_VALUE}, {0, Integer.MIN_VALUE}, {1, 0}, {2, 0}, {-1, 0},
                {16, 0}, {Integer.MIN_VALUE, 0}, {Integer.MAX_VALUE, 0}};
            for (int[] n : none) {
                for (int what = 0; what < 5; what++) {
                    Check.same("field " + n[0] + ", " + n[1], c.x.fieldLook(n[0], n[1], what), -1);
                }
            }
        });
    }
}
