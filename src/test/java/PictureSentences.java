/** Pictures, what keeps what, rings, doubles, cuts, growth and likeness, word for word: promises 28 to 39. */
final class PictureSentences {
    private static final int LEAST = Integer.MIN_VALUE;
    private static final int MOST = Integer.MAX_VALUE;
    private static final int[] NO_PICTURE = {-1, 4, LEAST, MOST};

    static void run() {
        walking();
        holders();
        dominating();
        rings();
        doubles();
        cutting();
        growing();
        likeness();
        promise28();
        promise29();
        promises30And31();
        promise32();
        promise33();
        promises34To36();
        promises37And38();
        promise39();
    }

    private static void link(HeapWorks x, int from, int... to) {
        for (int k = 0; k < to.length; k++) {
            x.set(from, k, to[k]);
        }
    }

    private static void roots(HeapWorks x, int... objects) {
        for (int o : objects) {
            x.root(o, true);
        }
    }

    private static void all(HeapWorks x, int what, int... due) {
        for (int t = 0; t < due.length; t++) {
            Check.same("thing " + t + " what " + what, x.thing(0, t, what), due[t]);
        }
        Check.same("no thing more", x.thing(0, due.length, what), -1);
    }

    private static void walking() {
        Document d = Document.terms();
        d.says("PICTURES, 0 .. 3.", c -> {
            HeapWorks x = PictureTest.nodes(c, 4);
            for (int p = 0; p < 4; p++) {
                x.root(p, true);
                Check.same("things", x.take(p), p + 1);
            }
            for (int p = 0; p < 4; p++) {
                Check.same("each has its own", x.picture(p, 0), p + 1);
            }
            for (int p : NO_PICTURE) {
                Check.refused("take " + p, Check.INDEX, () -> x.take(p));
            }
        });
        d.says("Taking one: THINGS are the objects that are reached, numbered in the order of a WALK: the roots in order, then "
            + "the links of thing 0, 1, .. in the order of slots, each object when it is met first.", c -> {
            HeapWorks x = PictureTest.nodes(c, 9);
            Check.same("without a root nothing is reached", x.take(0), 0);
            // 4 -> 7, 4, 0; 2 -> 0, 4; 7 -> 5; 0 -> 6, 5, 2; 6 -> 3; 8 and 1 are not reached, though 8 -> 4
            link(x, 4, 7, 4, 0);
            link(x, 2, 0, 4);
            link(x, 7, 5);
            link(x, 0, 6, 5, 2);
            link(x, 6, 3);
            link(x, 8, 4, 1);
            roots(x, 4, 2);
            Check.same("things", x.take(0), 7);
            all(x, 0, 4, 2, 7, 0, 5, 6, 3);
            roots(x, 3);
            Check.same("things", x.take(0), 7);
            all(x, 0, 4, 2, 3, 7, 0, 5, 6);
        });
        d.says("A thing's DEPTH: how many links from a root (a root's 0);", c -> {
            HeapWorks x = PictureTest.nodes(c, 6);
            // 0 -> 1 -> 2 -> 3 -> 0, 0 -> 3, 4 -> 5 -> 4
            link(x, 0, 1, 3);
            link(x, 1, 2);
            link(x, 2, 3);
            link(x, 3, 0, 4);
            link(x, 4, 5);
            link(x, 5, 4);
            roots(x, 0);
            x.take(0);
            all(x, 0, 0, 1, 3, 2, 4, 5);
            all(x, 4, 0, 1, 1, 2, 2, 3);
            roots(x, 5);
            x.take(0);
            all(x, 0, 0, 5, 1, 3, 4, 2);
            all(x, 4, 0, 0, 1, 1, 1, 2);
        });
        d.says("its WAY: the thing and slot that met it first (NONE and the root's number, if a root did; the told ones first, "
            + "then statics that are LINKS, numbered on).", c -> {
            HeapWorks x = PictureTest.nodes(c, 6);
            c.type("S");
            c.field(1, "s", 5, -1, true);
            c.field(1, "i", 3, -1, true);
            c.field(1, "t", 5, -1, true);
            c.field(1, "u", 5, -1, true);
            roots(x, 1, 0);
            x.setStatic(1, 2, 2);
            x.setStatic(1, 3, 0);
            link(x, 1, 3, 0, 3);
            link(x, 0, -1, 3, 4);
            link(x, 3, 4, 5);
            x.take(0);
            all(x, 0, 1, 0, 2, 3, 4, 5);
            all(x, 5, -1, -1, -1, 0, 1, 3);
            all(x, 6, 0, 1, 3, 0, 2, 1);
        });
    }

    private static void holders() {
        Document d = Document.terms();
        d.says("HOLDERS of a thing: the roots that link to it (thing NONE, the root's number), then things and slots, in "
            + "order.", c -> {
            HeapWorks x = PictureTest.nodes(c, 4);
            c.type("S");
            c.field(1, "s", 5, -1, true);
            c.field(1, "t", 5, -1, true);
            roots(x, 3, 0);
            x.setStatic(1, 0, 0);
            x.setStatic(1, 1, 0);
            link(x, 3, 0, 1, 0);
            link(x, 0, 0);
            link(x, 1, 2, 0);
            x.take(0);
            all(x, 0, 3, 0, 1, 2);
            all(x, 7, 1, 7, 1, 1);
            int[][] due = {{-1, 1}, {-1, 2}, {-1, 3}, {0, 0}, {0, 2}, {1, 0}, {2, 1}};
            for (int k = 0; k < due.length; k++) {
                Check.same("holder " + k, x.holder(0, 1, k, 0), due[k][0]);
                Check.same("slot of holder " + k, x.holder(0, 1, k, 1), due[k][1]);
            }
            Check.refused("no more", Check.ELEMENT, () -> x.holder(0, 1, due.length, 0));
        });
        d.says("(Statics that are LINKS are numbered behind the told roots, also those that are null.)", c -> {
            HeapWorks x = PictureTest.nodes(c, 2);
            c.type("S");
            for (int k = 0; k < 3; k++) {
                c.field(1, "s" + k, 5, -1, true);
            }
            c.type("T");
            c.field(2, "n", 4, -1, true);
            c.field(2, "t", 5, -1, true);
            x.setStatic(2, 1, 1);
            x.take(0);
            Check.same("three null ones ahead", x.thing(0, 0, 6), 3);
            roots(x, 0);
            x.take(0);
            Check.same("and a told one", x.thing(0, 1, 6), 4);
            Check.same("its holder", x.holder(0, 1, 0, 1), 4);
            x.setStatic(1, 1, 1);
            x.take(0);
            Check.same("the second", x.thing(0, 1, 6), 2);
            Check.same("both", x.thing(0, 1, 7), 2);
        });
    }

    private static void dominating() {
        Document d = Document.terms();
        // roots 0 and 7; 0 -> 1, 2; 1 -> 3; 2 -> 3, 2; 3 -> 4; 4 -> 5, 3; 5 -> 6; 7 -> 5
        Document.Test web = c -> {
            HeapWorks x = PictureTest.nodes(c, 8);
            link(x, 0, 1, 2);
            link(x, 1, 3);
            link(x, 2, 3, 2);
            link(x, 3, 4);
            link(x, 4, 5, 3);
            link(x, 5, 6);
            link(x, 7, 5);
            roots(x, 0, 7);
            x.take(0);
            all(x, 0, 0, 7, 1, 2, 5, 3, 6, 4);
        };
        d.says("A thing DOMINATES another one if each way from a root to that leads over it (itself as well);", c -> {
            web.run(c);
            all(c.x, 10, 5, 1, 1, 1, 2, 2, 1, 1);
        });
        d.says("its DOMINATOR is the nearest other thing that dominates it (NONE: none does).", c -> {
            web.run(c);
            all(c.x, 8, -1, -1, 0, 0, -1, 0, 4, 5);
            c.x.root(4, true);
            c.x.take(0);
            // 0, 7, 4, 1, 2, 5, 3, 6: a root is dominated by none, though a thing holds it too
            all(c.x, 0, 0, 7, 4, 1, 2, 5, 3, 6);
            all(c.x, 8, -1, -1, -1, 0, 0, -1, -1, 5);
        });
        d.says("KEPT: the SIZES of all that it dominates.", c -> {
            web.run(c);
            all(c.x, 9, 160, 32, 32, 32, 64, 64, 32, 32);
            int array = c.x.make(24, 60);
            c.x.set(6, 0, array);
            c.x.take(0);
            Check.same("496 more", c.x.thing(0, 4, 9), 64 + 496);
            Check.same("not more", c.x.thing(0, 0, 9), 160);
        });
    }

    private static void rings() {
        Document.terms().says("A RING: things of which each reaches each (one alone, if it does not link to itself, is none): "
            + "numbered by their first things; a ring has its things, in order.", c -> {
            HeapWorks x = PictureTest.nodes(c, 9);
            // 0 -> 1, 2, 3; 1 -> 4 -> 5 -> 4, 1; 2 -> 2; 3 -> 6 -> 7 -> 8 -> 6
            link(x, 0, 1, 2, 3);
            link(x, 1, 4);
            link(x, 4, 5);
            link(x, 5, 4, 1);
            link(x, 2, 2);
            link(x, 3, 6);
            link(x, 6, 7);
            link(x, 7, 8);
            roots(x, 0);
            x.take(0);
            Check.same("two rings", x.picture(0, 1), 2);
            link(x, 8, 6);
            x.take(0);
            all(x, 0, 0, 1, 2, 3, 4, 6, 5, 7, 8);
            all(x, 11, -1, 0, 1, -1, 0, 2, 0, 2, 2);
            int[][] due = {{1, 4, 6}, {2}, {5, 7, 8}};
            for (int r = 0; r < 3; r++) {
                for (int k = 0; k < due[r].length; k++) {
                    Check.same("ring " + r + " thing " + k, x.member(0, 0, r, k), due[r][k]);
                }
            }
            link(x, 8, 6, 0);
            x.take(0);
            all(x, 11, 0, 1, 2, 0, 1, 0, 1, 0, 0);
            link(x, 5, 4, 1, 0);
            link(x, 2, 0);
            x.take(0);
            Check.same("one ring of all", x.member(0, 0, 0, 8), 8);
        });
    }

    private static void doubles() {
        Document.terms().says("DOUBLES: things of one type with the same length and the same values in their slots (links to "
            + "the same things): groups of two and more, numbered by their first things.", c -> {
            HeapWorks x = PictureTest.nodes(c, 0);
            c.type("M", 0, 0);
            c.type("E");
            int root = x.make(29, 20);
            roots(x, root);
            int[] types = {0, 20, 0, 20, 21, 20, 1, 2, 2, 29, 29, 0, 0, 0, 22, 22, 0};
            int[] lengths = {0, 2, 0, 3, 2, 2, 0, 0, 0, 1, 1, 0, 0, 0, 0, 0, 0};
            for (int k = 0; k < types.length; k++) {
                x.set(root, k, x.make(types[k], lengths[k]));
            }
            // objects 1 .. 17: 1 has n = 5; 3, 12 link to 1; 13 to 5; 14 has n = 1; 17 links to 1, but in another slot
            x.set(1, 3, 5);
            x.set(3, 0, 1);
            x.set(12, 0, 1);
            x.set(13, 0, 5);
            x.set(14, 3, 1);
            x.set(17, 1, 1);
            x.set(10, 0, 10);
            x.set(11, 0, 11);
            x.take(0);
            // things 0: root, 1 .. 17 the others
            all(x, 12, -1, -1, 0, 1, -1, -1, 0, -1, 2, 2, -1, -1, 1, -1, -1, 3, 3, -1);
            Check.same("groups", x.picture(0, 2), 4);
            x.set(14, 3, 5);
            x.set(11, 0, 10);
            x.take(0);
            all(x, 12, -1, 0, 1, 2, -1, -1, 1, -1, 3, 3, 4, 4, 2, -1, 0, 5, 5, -1);
            Check.same("the last of a group", x.member(0, 1, 0, 1), 14);
        });
    }

    private static void cutting() {
        Document.terms().says("CUT: with things that are CHOSEN, the things that no way from a root without a chosen one "
            + "reaches (chosen ones too).", c -> {
            HeapWorks x = PictureTest.nodes(c, 7);
            // roots 0 and 5; 0 -> 1, 2; 1 -> 3; 2 -> 3, 4; 5 -> 4; 3 -> 6 -> 0
            link(x, 0, 1, 2);
            link(x, 1, 3);
            link(x, 2, 3, 4);
            link(x, 5, 4);
            link(x, 3, 6);
            link(x, 6, 0);
            roots(x, 0, 5);
            x.take(0);
            all(x, 0, 0, 5, 1, 2, 4, 3, 6);
            lost(x);
            x.choose(0, 2, true);
            lost(x, 2);
            x.choose(0, 3, true);
            lost(x, 2, 3, 5, 6);
            x.choose(0, 1, true);
            lost(x, 1, 2, 3, 4, 5, 6);
            x.choose(0, 0, true);
            lost(x, 0, 1, 2, 3, 4, 5, 6);
            for (int t = 1; t < 4; t++) {
                x.choose(0, t, false);
            }
            lost(x, 0, 2, 3, 5, 6);
            x.choose(0, 0, false);
            x.choose(0, 6, true);
            lost(x, 6);
        });
    }

    private static void lost(HeapWorks x, int... due) {
        Check.same("lost", x.lost(0), due.length);
        for (int k = 0; k < due.length; k++) {
            Check.same("lost " + k, x.lostThing(0, k), due[k]);
        }
        Check.same("no more", x.lostThing(0, due.length), -1);
    }

    private static void grown(HeapWorks x, int p, int q, int what, int... due) {
        Check.same("growth " + p + q + what, x.growth(p, q, what), due.length);
        for (int k = 0; k < due.length; k++) {
            Check.same("grown " + p + q + what + " " + k, x.grown(k), due[k]);
        }
        Check.same("no more", x.grown(due.length), -1);
    }

    private static void growing() {
        Document d = Document.terms();
        d.says("GROWTH from a picture to another one, by objects' numbers: what is NEW (there and not here), GONE,", c -> {
            HeapWorks x = PictureTest.nodes(c, 6);
            grown(x, 0, 1, 0);
            grown(x, 0, 1, 1);
            roots(x, 3, 1, 0);
            x.take(0);
            grown(x, 1, 0, 0, 0, 1, 2);
            grown(x, 0, 1, 0);
            grown(x, 0, 1, 1, 0, 1, 2);
            grown(x, 0, 0, 0);
            grown(x, 0, 0, 1);
            x.root(3, false);
            x.root(1, false);
            roots(x, 5, 2);
            x.take(1);
            grown(x, 0, 1, 0, 1, 2);
            grown(x, 0, 1, 1, 0, 1);
        });
        d.says("CHANGED (in both, of another type or length, or a value in a slot is another one; links by objects' numbers),",
            c -> {
            HeapWorks x = PictureTest.nodes(c, 5);
            roots(x, 0, 1, 2);
            link(x, 0, 2);
            link(x, 1, 3, 3);
            x.take(0);
            grown(x, 0, 0, 2);
            // another thing has the number now, but the objects are the same
            x.root(0, false);
            x.root(0, true);
            x.take(1);
            Check.same("another number", x.thing(1, 0, 0), 1);
            grown(x, 0, 1, 2);
            x.set(2, 3, 1);
            x.take(1);
            grown(x, 0, 1, 2, 1);
            x.set(1, 1, 4);
            x.set(0, 0, -1);
            x.take(1);
            // 1, 2, 0, 3, 4
            grown(x, 0, 1, 2, 0, 1, 2);
            // object 7 as arrays of two BITs, of three, of two BYTEs, and of two BITs of which one is set
            int[][] things = {{20, 2, 0, 0}, {20, 3, 0, 0, 0}, {21, 2, 0, 0}, {20, 2, 0, 2}};
            for (int p = 0; p < 4; p++) {
                int[] bytes = new int[things[p].length + 7];
                System.arraycopy(new int[] {72, 80, 1, 7}, 0, bytes, 0, 4);
                System.arraycopy(things[p], 0, bytes, 4, things[p].length);
                bytes[4 + things[p].length] = 1;
                c.tape(Check.checked(bytes));
                Check.same("load", x.load(p), 1);
            }
            for (int p = 0; p < 4; p++) {
                for (int q = 0; q < 4; q++) {
                    Check.same("changed", x.growth(p, q, 2), p == q ? 0 : 1);
                }
            }
        });
        d.says("each in the order of the picture in which it is (CHANGED: the second one's).", c -> {
            HeapWorks x = PictureTest.nodes(c, 6);
            roots(x, 0, 1, 2, 3);
            x.take(0);
            for (int o = 0; o < 6; o++) {
                x.set(o, 3, 7);
                x.root(o, false);
            }
            roots(x, 5, 3, 4, 1);
            x.take(1);
            grown(x, 0, 1, 0, 0, 2);
            grown(x, 0, 1, 1, 0, 2);
            grown(x, 0, 1, 2, 1, 3);
            grown(x, 1, 0, 2, 1, 3);
            x.root(1, false);
            x.root(3, false);
            roots(x, 1, 3);
            x.take(1);
            // 5, 4, 1, 3
            grown(x, 0, 1, 2, 2, 3);
            grown(x, 1, 0, 2, 1, 3);
            grown(x, 0, 1, 0, 0, 1);
        });
    }

    private static void likeness() {
        Document.terms().says("LIKE are a thing of a picture and a thing of another one (or the same): if walking from both at "
            + "once, slot by slot, each pair that is met has one type and length, the same values where no links are, null "
            + "against null, and each thing is met with one other alone.", c -> {
            HeapWorks x = PictureTest.nodes(c, 10);
            c.type("M", 0, 0);
            // rings 0 1 2 and 3 4 5; 6 -> 7, 7; 8 -> 9, 7
            for (int k = 0; k < 6; k++) {
                link(x, k, k % 3 == 2 ? k - 2 : k + 1);
            }
            link(x, 6, 7, 7);
            link(x, 8, 9, 7);
            int heir = x.make(1, 0);
            int array = x.make(29, 3);
            roots(x, 0, 3, 6, 8, heir, array);
            x.take(0);
            all(x, 0, 0, 3, 6, 8, heir, array, 1, 4, 7, 9, 2, 5);
            Check.same("itself", x.like(0, 0, 0, 0), true);
            Check.same("another ring", x.like(0, 0, 0, 1), true);
            Check.same("turned", x.like(0, 6, 0, 1), true);
            Check.same("one for two", x.like(0, 2, 0, 3), false);
            Check.same("two for one", x.like(0, 3, 0, 2), false);
            Check.same("another type", x.like(0, 8, 0, 4), false);
            Check.same("another type", x.like(0, 4, 0, 8), false);
            Check.same("leaves", x.like(0, 8, 0, 9), true);
            Check.same("null against a thing", x.like(0, 8, 0, 0), false);
            Check.same("a thing against null", x.like(0, 0, 0, 8), false);
            x.make(29, 3);
            x.make(29, 2);
            roots(x, array + 1, array + 2);
            x.take(0);
            Check.same("arrays of one length", x.like(0, 5, 0, 6), true);
            Check.same("another length", x.like(0, 5, 0, 7), false);
            x.set(5, 3, 8);
            x.take(1);
            Check.same("a value that is far off", x.like(0, 1, 1, 1), false);
            Check.same("the other ring", x.like(0, 1, 1, 0), true);
            Check.same("a value of a leaf", x.like(0, 8, 1, 8), true);
            // 0 -> 0 and 1 -> 2 -> 2, where the first of a pair would be met with a second one
            Check loops = new Check();
            HeapWorks y = PictureTest.nodes(loops, 3);
            link(y, 0, 0);
            link(y, 1, 2);
            link(y, 2, 2);
            roots(y, 0, 1);
            y.take(0);
            Check.same("two for one", y.like(0, 1, 0, 0), false);
            Check.same("one for two", y.like(0, 0, 0, 1), false);
            Check.same("one for one", y.like(0, 0, 0, 2), true);
        });
    }

    private static void promise28() {
        Document d = Document.promise(28);
        d.says("Picture p is taken, in the place of what it was: how many things.", c -> {
            HeapWorks x = PictureTest.nodes(c, 3);
            Check.same("none", x.take(2), 0);
            link(x, 0, 1, 2);
            roots(x, 0);
            Check.same("three", x.take(2), 3);
            Check.same("nothing is taken by itself", x.picture(1, 0), 0);
            link(x, 0, 1, -1);
            Check.same("it stays as it was", x.slot(2, 0, 1), 2);
            Check.same("two", x.take(2), 2);
            Check.same("the third is gone", x.thing(2, 2, 0), -1);
            Check.same("the slot", x.slot(2, 0, 1), -1);
            x.root(0, false);
            Check.same("none", x.take(2), 0);
            Check.same("nothing", x.thing(2, 0, 0), -1);
        });
        d.says("IndexOutOfBoundsException: p is not 0 .. 3.", c -> {
            for (int p : NO_PICTURE) {
                Check.refused("take " + p, Check.INDEX, () -> c.x.take(p));
            }
            for (int p = 0; p < 4; p++) {
                Check.same("take " + p, c.x.take(p), 0);
            }
        });
    }

    private static void promise29() {
        Document d = Document.promise(29);
        d.says("Of thing t of a picture: its object's number (what = 0), type (1), length (2), SIZE (3), DEPTH (4), its WAY's "
            + "thing (5) and slot (6), how many HOLDERS (7), DOMINATOR (8), KEPT (9), how many things it dominates (10), RING "
            + "(11; NONE without), group of DOUBLES (12; NONE without).", c -> {
            HeapWorks x = PictureTest.nodes(c, 5);
            int array = x.make(22, 3);
            // 4 -> 2, 3; 2 -> 4, 0; 3 -> array; 0, and 1 as its double under 3
            link(x, 4, 2, 3);
            link(x, 2, 4, 0);
            link(x, 3, array, 1);
            roots(x, 4);
            x.take(0);
            int[][] due = {
                {4, 0, 0, 32, 0, -1, 0, 2, -1, 184, 6, 0, -1},
                {2, 0, 0, 32, 1, 0, 0, 1, 0, 64, 2, 0, -1},
                {3, 0, 0, 32, 1, 0, 1, 1, 0, 88, 3, -1, -1},
                {0, 0, 0, 32, 2, 1, 1, 1, 1, 32, 1, -1, 0},
                {array, 22, 3, 24, 2, 2, 0, 1, 2, 24, 1, -1, -1},
                {1, 0, 0, 32, 2, 2, 1, 1, 2, 32, 1, -1, 0}};
            for (int t = 0; t < due.length; t++) {
                for (int what = 0; what <= 12; what++) {
                    Check.same("thing " + t + " what " + what, x.thing(0, t, what), due[t][what]);
                }
            }
        });
        d.says("NONE if there is none such, or for another what.", c -> {
            HeapWorks x = PictureTest.nodes(c, 1);
            roots(x, 0);
            x.take(3);
            int[] whats = {-1, 13, LEAST, MOST};
            for (int what : whats) {
                Check.same("what " + what, x.thing(3, 0, what), -1);
            }
            for (int what = 0; what <= 12; what++) {
                int[] none = {-1, 1, 400, LEAST, MOST};
                for (int t : none) {
                    Check.same("thing " + t, x.thing(3, t, what), -1);
                }
                for (int p : NO_PICTURE) {
                    Check.same("picture " + p, x.thing(p, 0, what), -1);
                }
                Check.same("not taken", x.thing(0, 0, what), -1);
            }
        });
    }

    private static void promises30And31() {
        Document d = Document.promise(30);
        d.says("Slot k of thing t (links as things' numbers).", c -> {
            HeapWorks x = PictureTest.nodes(c, 3);
            link(x, 2, 0, -1, 2);
            x.set(2, 3, -7);
            roots(x, 2);
            x.take(0);
            long[] due = {1, -1, 0, -7};
            for (int k = 0; k < 4; k++) {
                Check.same("slot " + k, x.slot(0, 0, k), due[k]);
            }
            int longs = x.make(24, 60);
            x.set(longs, 59, Long.MIN_VALUE);
            roots(x, longs);
            x.take(0);
            Check.same("the last element", x.slot(0, 1, 59), Long.MIN_VALUE);
        });
        d.says("NoSuchElementException: none such.", c -> {
            HeapWorks x = PictureTest.nodes(c, 1);
            roots(x, 0, x.make(20, 0));
            x.take(0);
            int[][] none = {{0, 0, 4}, {0, 0, -1}, {0, 0, LEAST}, {0, 0, MOST}, {0, 1, 0}, {0, 2, 0}, {0, -1, 0}, {0, LEAST, 0},
                {0, MOST, 0}, {1, 0, 0}, {4, 0, 0}, {-1, 0, 0}, {LEAST, 0, 0}, {MOST, 0, 0}};
            for (int[] n : none) {
                Check.refused("slot " + n[0] + ", " + n[1] + ", " + n[2], Check.ELEMENT, () -> x.slot(n[0], n[1], n[2]));
            }
        });
        Document h = Document.promise(31);
        h.says("Holder k of thing t: the thing (what = 0; NONE of a root), slot or root's number (1).", c -> {
            HeapWorks x = PictureTest.nodes(c, 2);
            link(x, 0, -1, 1, 0);
            roots(x, 0);
            x.take(0);
            int[][] due = {{0, 0, -1, 0}, {0, 1, 0, 2}, {1, 0, 0, 1}};
            for (int[] n : due) {
                Check.same("the thing", x.holder(0, n[0], n[1], 0), n[2]);
                Check.same("the slot", x.holder(0, n[0], n[1], 1), n[3]);
            }
        });
        h.says("NoSuchElementException: none such, or for another what.", c -> {
            HeapWorks x = PictureTest.nodes(c, 1);
            roots(x, 0);
            x.take(0);
            int[][] none = {{0, 0, 1, 0}, {0, 0, -1, 0}, {0, 0, LEAST, 0}, {0, 0, MOST, 0}, {0, 1, 0, 0}, {0, -1, 0, 0},
                {0, LEAST, 0, 0}, {0, MOST, 0, 0}, {1, 0, 0, 0}, {4, 0, 0, 0}, {-1, 0, 0, 0}, {LEAST, 0, 0, 0},
                {MOST, 0, 0, 0}, {0, 0, 0, 2}, {0, 0, 0, -1}, {0, 0, 0, LEAST}, {0, 0, 0, MOST}};
            for (int[] n : none) {
                String what = "holder " + n[0] + ", " + n[1] + ", " + n[2] + ", " + n[3];
                Check.refused(what, Check.ELEMENT, () -> x.holder(n[0], n[1], n[2], n[3]));
            }
        });
    }

    private static void promise32() {
        Document d = Document.promise(32);
        d.says("Of a picture: things (what = 0), rings (1), groups of doubles (2), SIZES of all (3), of all doubles but the "
            + "first of each group (4), greatest DEPTH (5; NONE without things), things that a class has without heirs (from "
            + "100 on, the class), with heirs (from 200 on).", c -> {
            HeapWorks x = PictureTest.nodes(c, 4);
            c.type("M", 0, 0);
            c.type("E");
            int first = x.make(1, 0);
            int bits = x.make(20, 9);
            int more = x.make(20, 9);
            int last = x.make(20, 9);
            // first -> 0, bits, more; 0 -> 1, last; 1 -> 0, 2, 3: things first, 0, bits, more, 1, last, 2, 3
            link(x, first, 0, bits, more);
            link(x, 0, 1, last);
            link(x, 1, 0, 2, 3);
            roots(x, first);
            x.take(2);
            int[] due = {8, 1, 2, 5 * 32 + 3 * 32, 3 * 32, 3};
            for (int what = 0; what < 6; what++) {
                Check.same("what " + what, x.picture(2, what), due[what]);
            }
            int[] without = {4, 1, 0};
            int[] with = {5, 1, 0};
            for (int k = 0; k < 3; k++) {
                Check.same("without heirs", x.picture(2, 100 + k), without[k]);
                Check.same("with heirs", x.picture(2, 200 + k), with[k]);
            }
            Check.same("no things", x.picture(0, 5), -1);
            roots(x, 3);
            x.root(first, false);
            x.take(2);
            Check.same("the only thing is of the class", x.picture(2, 100), 1);
            Check.same("and IS it", x.picture(2, 200), 1);
            Check.same("its depth", x.picture(2, 5), 0);
            Check.same("its size", x.picture(2, 3), 32);
            // the first thing of all has a double; and the sizes are asked for ahead of the groups
            Check twins = new Check();
            for (int k = 0; k < 3; k++) {
                twins.x.root(twins.x.make(20, 9), true);
            }
            twins.x.take(0);
            Check.same("two of three", twins.x.picture(0, 4), 64);
            Check.same("one group", twins.x.picture(0, 2), 1);
            Check singles = new Check();
            for (int k = 0; k < 3; k++) {
                singles.x.root(singles.x.make(20, k), true);
            }
            singles.x.take(0);
            Check.same("no doubles", singles.x.picture(0, 4), 0);
            Check full = new Check();
            for (int k = 0; k < 16; k++) {
                full.type("C" + k, k - 1, 0);
            }
            full.x.root(full.x.make(15, 0), true);
            full.x.take(0);
            for (int k = 0; k < 16; k++) {
                Check.same("class " + k, full.x.picture(0, 100 + k), k == 15 ? 1 : 0);
                Check.same("class " + k, full.x.picture(0, 200 + k), 1);
            }
            Check.same("no class 16", full.x.picture(0, 116), -1);
            Check.same("no class 16", full.x.picture(0, 216), -1);
        });
        d.says("NONE if p is none, or for another what.", c -> {
            HeapWorks x = PictureTest.nodes(c, 1);
            roots(x, 0);
            x.take(0);
            int[] whats = {-1, 6, 99, 101, 115, 199, 201, 215, 216, 300, LEAST, MOST};
            for (int what : whats) {
                Check.same("what " + what, x.picture(0, what), -1);
            }
            int[] all = {0, 1, 2, 3, 4, 5, 100, 200};
            for (int what : all) {
                for (int p : NO_PICTURE) {
                    Check.same("picture " + p, x.picture(p, what), -1);
                }
            }
        });
        d.says("(A picture that was not taken has no things.)", c -> {
            PictureTest.nodes(c, 1);
            c.x.root(0, true);
            for (int p = 0; p < 4; p++) {
                int[] due = {0, 0, 0, 0, 0, -1};
                for (int what = 0; what < 6; what++) {
                    Check.same("what " + what, c.x.picture(p, what), due[what]);
                }
                Check.same("class", c.x.picture(p, 100), 0);
                Check.same("heirs", c.x.picture(p, 200), 0);
                Check.same("nothing cut", c.x.lost(p), 0);
                Check.same("no rows", c.ask(p, "things"), 0);
                Check.same("bytes", c.x.bytes(p), 8);
            }
        });
    }

    private static void promise33() {
        Document d = Document.promise(33);
        d.says("The k-th thing of a ring (way = 0), of a group of doubles (1).", c -> {
            HeapWorks x = PictureTest.nodes(c, 6);
            link(x, 0, 1, 2, 3);
            link(x, 1, 0);
            link(x, 4, 4, 5);
            roots(x, 0, 4);
            x.take(0);
            // things 0, 4, 1, 2, 3, 5; rings 0 1 and 4; doubles 2, 3 and 5
            int[][] due = {{0, 0, 0, 0}, {0, 0, 1, 2}, {0, 1, 0, 1}, {1, 0, 0, 3}, {1, 0, 1, 4}, {1, 0, 2, 5}};
            for (int[] n : due) {
                Check.same("member " + n[0] + n[1] + n[2], x.member(0, n[0], n[1], n[2]), n[3]);
            }
        });
        d.says("NoSuchElementException: none such.", c -> {
            HeapWorks x = PictureTest.nodes(c, 3);
            link(x, 0, 0, 1, 2);
            roots(x, 0);
            Check.refused("not taken", Check.ELEMENT, () -> x.member(0, 0, 0, 0));
            Check.refused("not taken", Check.ELEMENT, () -> x.member(0, 1, 0, 0));
            x.take(0);
            Check.same("a ring", x.member(0, 0, 0, 0), 0);
            Check.same("a group", x.member(0, 1, 0, 1), 2);
            int[][] none = {{0, 0, 0, 1}, {0, 0, 0, -1}, {0, 0, 0, LEAST}, {0, 0, 0, MOST}, {0, 0, 1, 0}, {0, 0, -1, 0},
                {0, 0, LEAST, 0}, {0, 0, MOST, 0}, {0, 1, 0, 2}, {0, 1, 1, 0}, {0, 1, -1, 0}, {0, 2, 0, 0}, {0, -1, 0, 0},
                {0, LEAST, 0, 0}, {0, MOST, 0, 0}, {4, 0, 0, 0}, {-1, 0, 0, 0}, {1, 0, 0, 0}, {LEAST, 1, 0, 0},
                {MOST, 1, 0, 0}};
            for (int[] n : none) {
                String what = "member " + n[0] + ", " + n[1] + ", " + n[2] + ", " + n[3];
                Check.refused(what, Check.ELEMENT, () -> x.member(n[0], n[1], n[2], n[3]));
            }
        });
    }

    private static void promises34To36() {
        Document.promise(34).says("Thing t is CHOSEN or not, from now on (a new picture has none): whether there is such.", c -> {
            HeapWorks x = PictureTest.nodes(c, 2);
            Check.same("not taken", x.choose(0, 0, true), false);
            link(x, 0, 1);
            roots(x, 0);
            x.take(0);
            x.take(1);
            Check.same("chosen", x.choose(0, 0, true), true);
            Check.same("chosen again", x.choose(0, 0, true), true);
            Check.same("all", x.lost(0), 2);
            Check.same("the other picture's are not", x.lost(1), 0);
            Check.same("not any more", x.choose(0, 0, false), true);
            Check.same("none", x.lost(0), 0);
            x.choose(0, 0, true);
            x.choose(0, 1, true);
            x.take(0);
            Check.same("a new picture has none", x.lost(0), 0);
            x.choose(0, 0, true);
            x.keep(0);
            x.bytes(0);
            x.load(0);
            Check.same("one that is read has none", x.lost(0), 0);
            x.choose(0, 0, true);
            x.recall(0, 0);
            Check.same("one that is recalled has none", x.lost(0), 0);
            int[][] none = {{0, 2}, {0, -1}, {0, LEAST}, {0, MOST}, {2, 0}, {4, 0}, {-1, 0}, {LEAST, 0}, {MOST, 0}};
            for (int[] n : none) {
                Check.same("choose " + n[0] + ", " + n[1], x.choose(n[0], n[1], true), false);
                Check.same("choose " + n[0] + ", " + n[1], x.choose(n[0], n[1], false), false);
            }
        });
        Document lost = Document.promise(35);
        lost.says("How many things are CUT by those that are chosen.", c -> {
            HeapWorks x = PictureTest.nodes(c, 3);
            link(x, 0, 1);
            link(x, 1, 2);
            roots(x, 0);
            Check.same("not taken", x.lost(0), 0);
            x.take(0);
            Check.same("none chosen", x.lost(0), 0);
            for (int t = 2; t >= 0; t--) {
                x.choose(0, t, true);
                Check.same("cut", x.lost(0), 3 - t);
            }
        });
        lost.says("IndexOutOfBoundsException: p is not 0 .. 3.", c -> {
            for (int p : NO_PICTURE) {
                Check.refused("lost " + p, Check.INDEX, () -> c.x.lost(p));
            }
        });
        Document.promise(36).says("The k-th thing that is CUT, as of the latest lost() of that picture since it was taken or "
            + "read; NONE if there is none such.", c -> {
            HeapWorks x = PictureTest.nodes(c, 3);
            link(x, 0, 1);
            link(x, 1, 2);
            roots(x, 0);
            x.take(0);
            x.take(1);
            x.choose(0, 1, true);
            Check.same("no lost() yet", x.lostThing(0, 0), -1);
            x.lost(0);
            Check.same("the first", x.lostThing(0, 0), 1);
            Check.same("the second", x.lostThing(0, 1), 2);
            x.choose(0, 0, true);
            Check.same("as of the latest lost()", x.lostThing(0, 0), 1);
            x.lost(1);
            Check.same("of that picture", x.lostThing(0, 1), 2);
            Check.same("the other one has none", x.lostThing(1, 0), -1);
            int[][] none = {{0, 2}, {0, -1}, {0, LEAST}, {0, MOST}, {2, 0}, {4, 0}, {-1, 0}, {LEAST, 0}, {MOST, 0}};
            for (int[] n : none) {
                Check.same("lostThing " + n[0] + ", " + n[1], x.lostThing(n[0], n[1]), -1);
            }
            x.keep(0);
            x.bytes(0);
            x.load(0);
            Check.same("since it was read", x.lostThing(0, 0), -1);
            x.choose(0, 0, true);
            x.lost(0);
            x.recall(0, 0);
            Check.same("since it was recalled", x.lostThing(0, 0), -1);
            x.choose(0, 0, true);
            x.lost(0);
            x.take(0);
            Check.same("since it was taken", x.lostThing(0, 0), -1);
        });
    }

    private static void promises37And38() {
        Document d = Document.promise(37);
        d.says("GROWTH from picture p to q: how many are NEW (what = 0), GONE (1), CHANGED (2).", c -> {
            HeapWorks x = PictureTest.nodes(c, 4);
            roots(x, 0, 1);
            x.take(0);
            x.root(0, false);
            roots(x, 2, 3);
            x.set(1, 3, 1);
            x.take(3);
            int[] due = {2, 1, 1};
            int[] back = {1, 2, 1};
            for (int what = 0; what < 3; what++) {
                Check.same("what " + what, x.growth(0, 3, what), due[what]);
                Check.same("back, what " + what, x.growth(3, 0, what), back[what]);
                Check.same("itself, what " + what, x.growth(3, 3, what), 0);
            }
        });
        d.says("IndexOutOfBoundsException: p, q or what.", c -> {
            for (int p : NO_PICTURE) {
                Check.refused("p " + p, Check.INDEX, () -> c.x.growth(p, 0, 0));
                Check.refused("q " + p, Check.INDEX, () -> c.x.growth(0, p, 0));
            }
            int[] whats = {-1, 3, LEAST, MOST};
            for (int what : whats) {
                Check.refused("what " + what, Check.INDEX, () -> c.x.growth(0, 0, what));
            }
        });
        Document.promise(38).says("The k-th of these, as of the latest growth(), as a thing of the picture in which it is; "
            + "NONE if there is none such.", c -> {
            HeapWorks x = PictureTest.nodes(c, 3);
            Check.same("no growth() yet", x.grown(0), -1);
            roots(x, 0, 1, 2);
            x.take(0);
            x.root(1, false);
            x.take(1);
            x.growth(0, 1, 1);
            Check.same("the second thing is gone", x.grown(0), 1);
            x.take(0);
            x.take(1);
            Check.same("as of the latest growth()", x.grown(0), 1);
            Check.refused("a refused one", Check.INDEX, () -> x.growth(0, 1, 3));
            Check.same("changes nothing", x.grown(0), 1);
            x.growth(2, 1, 0);
            int[] due = {0, 1};
            for (int k = 0; k < 2; k++) {
                Check.same("new", x.grown(k), due[k]);
            }
            int[] none = {-1, 2, 400, LEAST, MOST};
            for (int k : none) {
                Check.same("grown " + k, x.grown(k), -1);
            }
            x.growth(0, 1, 0);
            Check.same("none", x.grown(0), -1);
        });
    }

    private static void promise39() {
        Document d = Document.promise(39);
        d.says("Whether two things are LIKE.", c -> {
            HeapWorks x = PictureTest.nodes(c, 2);
            roots(x, 0);
            x.take(0);
            x.root(0, false);
            roots(x, 1);
            x.take(3);
            Check.same("another object", x.like(0, 0, 3, 0), true);
            x.set(1, 3, 1);
            x.take(3);
            Check.same("another value", x.like(0, 0, 3, 0), false);
            Check.same("the other way", x.like(3, 0, 0, 0), false);
        });
        d.says("NoSuchElementException: none such.", c -> {
            HeapWorks x = PictureTest.nodes(c, 1);
            roots(x, 0);
            x.take(0);
            int[][] none = {{0, 1}, {0, -1}, {0, LEAST}, {0, MOST}, {1, 0}, {4, 0}, {-1, 0}, {LEAST, 0}, {MOST, 0}};
            for (int[] n : none) {
                Check.refused("like " + n[0] + ", " + n[1], Check.ELEMENT, () -> x.like(n[0], n[1], 0, 0));
                Check.refused("with " + n[0] + ", " + n[1], Check.ELEMENT, () -> x.like(0, 0, n[0], n[1]));
            }
        });
    }
}
