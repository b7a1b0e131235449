/** Pictures as bytes, the log and what there is of all, word for word: promises 46 and 48 to 52. */
final class BytesSentences extends ByteChecks {
    private static final int LEAST = Integer.MIN_VALUE;
    private static final int MOST = Integer.MAX_VALUE;
    private static final int[] NO_PICTURE = {-1, 4, LEAST, MOST};
    private static final int[] ABOVE_64_BITS = {255, 255, 255, 255, 255, 255, 255, 255, 255, 2};
    private static final int[] ALL_64_BITS = {255, 255, 255, 255, 255, 255, 255, 255, 255, 1};

    static void run() {
        writing();
        ends();
        numbers();
        things();
        values();
        roots();
        slots();
        checks();
        order();
        using();
        logging();
        promise46();
        promise48();
        promise49();
        promise50();
        promise51();
        promise52();
    }

    private static void good(Check c, int things, int... bytes) {
        c.tape(Check.checked(bytes));
        Check.same(java.util.Arrays.toString(bytes), c.x.load(3), things);
        Check.same("no fault", c.x.fault(0), 0);
        Check.same("no place", c.x.fault(1), -1);
    }

    private static void writing() {
        Document d = Document.terms();
        d.says("BYTES of a picture: 72, 80, then numbers (7 bits a byte, the lowest first, 128 added to all but the last;", c -> {
            HeapWorks x = c.x;
            x.bytes(0);
            tapeIs(c, Check.checked(72, 80, 0, 0));
            int[] made = {0, 127, 128, 255, 256, 399};
            int[][] due = {{0}, {127}, {128, 1}, {255, 1}, {128, 2}, {143, 3}};
            for (int k = 0; k < 400; k++) {
                x.make(20, 0);
            }
            for (int k = 0; k < made.length; k++) {
                x.root(made[k], true);
                x.take(0);
                x.bytes(0);
                tapeIs(c, Check.checked(join(row(72, 80, 1), due[k], row(20, 0, 1, 0, 0))));
                x.root(made[k], false);
            }
        });
        d.says("a LONG's and others' values as 2 v, or -2 v - 1 below 0, in 64 bits):", c -> {
            HeapWorks x = c.x;
            x.make(24, 1);
            x.root(0, true);
            long[] values = {0, 1, -1, 63, -64, 64, -65, Long.MAX_VALUE, Long.MIN_VALUE, 1L << 55, -1L << 62};
            int[][] due = {{0}, {2}, {1}, {126}, {127}, {128, 1}, {129, 1}, {254, 255, 255, 255, 255, 255, 255, 255, 255, 1},
                {255, 255, 255, 255, 255, 255, 255, 255, 255, 1}, {128, 128, 128, 128, 128, 128, 128, 128, 1},
                {255, 255, 255, 255, 255, 255, 255, 255, 127}};
            for (int k = 0; k < values.length; k++) {
                x.set(0, 0, values[k]);
                x.take(0);
                x.bytes(0);
                tapeIs(c, Check.checked(join(row(72, 80, 1, 0, 24, 1), due[k], row(1, 0, 0))));
                Check.same("read", x.load(1), 1);
                Check.same("the same", x.slot(1, 0, 0), values[k]);
            }
            x.root(0, false);
            long[][] edges = {{0, 1}, {-128, 127}, {-32768, 32767}, {-2147483648L, 2147483647L}};
            int[][] bytes = {{0, 2}, {255, 1, 254, 1}, {255, 255, 3, 254, 255, 3}, {255, 255, 255, 255, 15, 254, 255, 255, 255, 15}};
            for (int kind = 0; kind < 4; kind++) {
                int o = x.make(20 + kind, 2);
                x.set(o, 0, edges[kind][0]);
                x.set(o, 1, edges[kind][1]);
                x.root(o, true);
                x.take(0);
                x.bytes(0);
                tapeIs(c, Check.checked(join(row(72, 80, 1, o, 20 + kind, 2), bytes[kind], row(1, 0, 0))));
                x.root(o, false);
            }
        });
        d.says("how many things; for each: its object's number, its type, its length (0 of objects), for each slot its value "
            + "(links: 0 null, else the thing and 1);", c -> {
            HeapWorks x = classes(c);
            x.make(2, 0);
            x.make(1, 0);
            x.make(29, 3);
            x.make(30, 0);
            x.set(1, 0, 2);
            x.set(1, 1, -3);
            x.set(1, 2, 1);
            x.set(2, 1, 3);
            x.set(2, 2, 0);
            x.root(1, true);
            Check.same("things", x.take(0), 4);
            Check.same("how many", x.bytes(0), 28);
            // object 1: B (2, -3, 1); object 2: links (null, 3, 4); object 3: no A's; object 0: W
            tapeIs(c, Check.checked(72, 80, 4, 1, 1, 0, 2, 5, 1, 2, 29, 3, 0, 3, 4, 3, 30, 0, 0, 2, 0, 1, 0, 0));
        });
        d.says("then how many roots link to things, each: its number, the thing;", c -> {
            HeapWorks x = classes(c);
            c.type("S");
            c.field(3, "t", 5, -1, true);
            c.field(3, "u", 5, -1, true);
            x.make(2, 0);
            x.make(2, 0);
            x.root(1, true);
            x.root(0, true);
            x.setStatic(3, 1, 1);
            x.take(0);
            x.bytes(0);
            // statics are the roots 2 (B.s), 3 (S.t) and 4 (S.u)
            tapeIs(c, Check.checked(72, 80, 2, 1, 2, 0, 0, 2, 0, 3, 0, 0, 1, 1, 4, 0));
        });
        d.says("at last a CHECK of four bytes, the lowest first: from 1, for each byte ahead: times 16777619, then xor with it.",
            c -> {
            c.x.bytes(0);
            // worked out step by step, in 32 bits
            long h = 1;
            int[] ahead = {72, 80, 0, 0};
            for (int b : ahead) {
                h = (h * 16777619L & 0xFFFFFFFFL) ^ b;
            }
            for (int k = 0; k < 4; k++) {
                Check.same("byte " + k + " of it", c.x.letter(4 + k), h >> 8 * k & 255);
            }
            Check.same("eight", c.x.about(0), 8);
        });
    }

    private static void ends() {
        Document d = Document.terms();
        d.says("READING one: FAULTS at the byte (of a number: its first): 1 it ends too early (at the tape's length);", c -> {
            HeapWorks x = classes(c);
            for (int k = 0; k < 130; k++) {
                x.make(2, 0);
            }
            int b = x.make(1, 0);
            int longs = x.make(24, 2);
            x.set(longs, 0, Long.MIN_VALUE);
            x.set(b, 0, longs);
            x.set(b, 1, -128);
            x.root(b, true);
            x.root(3, true);
            x.take(0);
            int size = x.bytes(0);
            Check.same("whole", x.load(3), 3);
            for (int n = size - 1; n >= 0; n--) {
                x.cut(n);
                Check.refused("cut to " + n, Check.ARGUMENT, () -> x.load(3));
                Check.same("it ends", x.fault(0), 1);
                Check.same("at its length", x.fault(1), n);
            }
            Check.same("the picture stays", x.picture(3, 0), 3);
            // of a number its first byte
            fault(c, 4, 3, 72, 80, 1, 144, 3);
            fault(c, 3, 3, 72, 80, 1, 129, 129, 0);
        });
        d.says("2 not 72, 80;", c -> {
            fault(c, 2, 0, 0);
            fault(c, 2, 0, 73);
            fault(c, 2, 0, 71, 80, 0, 0);
            fault(c, 2, 0, 80, 72);
            fault(c, 2, 1, 72, 72);
            fault(c, 2, 1, 72, 81, 0, 0);
            fault(c, 1, 0);
            fault(c, 1, 1, 72);
        });
    }

    private static void numbers() {
        Document.terms().says("3 a number with a needless last byte 0, or above 64 bits;", c -> {
            classes(c);
            fault(c, 3, 2, 72, 80, 128, 0);
            fault(c, 3, 2, 72, 80, 129, 0);
            fault(c, 3, 2, 72, 80, 129, 128, 0);
            fault(c, 3, 2, join(row(72, 80), ABOVE_64_BITS));
            fault(c, 4, 2, join(row(72, 80), ALL_64_BITS));
            fault(c, 3, 2, 72, 80, 128, 128, 128, 128, 128, 128, 128, 128, 128, 0);
            fault(c, 3, 2, 72, 80, 128, 128, 128, 128, 128, 128, 128, 128, 128, 129, 1);
            fault(c, 3, 2, 72, 80, 128, 128, 128, 128, 128, 128, 128, 128, 128, 127);
            fault(c, 1, 11, 72, 80, 128, 128, 128, 128, 128, 128, 128, 128, 128);
            fault(c, 3, 3, 72, 80, 1, 128, 0);
            fault(c, 3, 4, 72, 80, 1, 0, 148, 0);
            fault(c, 3, 5, 72, 80, 1, 0, 24, 129, 0);
            fault(c, 3, 6, 72, 80, 1, 0, 24, 1, 128, 0);
            fault(c, 3, 6, join(row(72, 80, 1, 0, 24, 1), ABOVE_64_BITS));
            fault(c, 3, 6, 72, 80, 1, 0, 29, 1, 129, 0);
            fault(c, 3, 6, 72, 80, 1, 0, 2, 0, 129, 0);
            fault(c, 3, 7, 72, 80, 1, 0, 2, 0, 1, 128, 0);
            fault(c, 3, 8, 72, 80, 1, 0, 2, 0, 1, 0, 128, 0);
            good(c, 1, join(row(72, 80, 1, 0, 24, 1), ALL_64_BITS, row(1, 0, 0)));
            Check.same("64 bits", c.x.slot(3, 0, 0), Long.MIN_VALUE);
        });
    }

    private static void things() {
        Document d = Document.terms();
        d.says("4 what can't be: more than 400 things,", c -> {
            fault(c, 4, 2, 72, 80, 145, 3);
            fault(c, 4, 2, 72, 80, 255, 127);
            fault(c, 1, 4, 72, 80, 144, 3);
            // 400 of them: arrays without elements, the roots' number of which does not go so far
            int[] many = new int[4 + 128 * 3 + 272 * 4];
            int at = 0;
            int[] head = {72, 80, 144, 3};
            for (int b : head) {
                many[at++] = b;
            }
            for (int t = 0; t < 400; t++) {
                if (t >= 128) {
                    many[at++] = t % 128 + 128;
                }
                many[at++] = t < 128 ? t : t / 128;
                many[at++] = 20;
                many[at++] = 0;
            }
            Check.same("all of them", at, many.length);
            fault(c, 7, 7, Check.checked(join(many, row(1, 0, 0))));
        });
        d.says("an object's number that is not 0 .. 399 or came already,", c -> {
            good(c, 1, 72, 80, 1, 0, 20, 0, 1, 0, 0);
            Check.same("0", c.x.thing(3, 0, 0), 0);
            good(c, 1, 72, 80, 1, 143, 3, 20, 0, 1, 0, 0);
            Check.same("399", c.x.thing(3, 0, 0), 399);
            fault(c, 4, 3, 72, 80, 1, 144, 3, 20, 0, 1, 0, 0);
            fault(c, 4, 3, join(row(72, 80, 1), ALL_64_BITS));
            fault(c, 4, 6, 72, 80, 2, 5, 20, 0, 5, 20, 0);
            fault(c, 4, 9, 72, 80, 3, 5, 20, 0, 6, 20, 0, 5, 20, 0);
            // what a reading that failed had met does not count
            good(c, 1, 72, 80, 1, 5, 20, 0, 1, 0, 0);
        });
        d.says("a type that is none (of a class that is there, or an array's),", c -> {
            classes(c);
            for (int type = 0; type < 128; type++) {
                boolean is = type < 3 || type >= 20 && type <= 24 || type == 29 || type >= 30 && type < 33;
                fault(c, is ? 1 : 4, is ? 5 : 4, 72, 80, 1, 0, type);
            }
            fault(c, 4, 4, join(row(72, 80, 1, 0), ALL_64_BITS));
            Check full = new Check();
            for (int k = 0; k < 16; k++) {
                full.type("C" + k);
            }
            good(full, 1, 72, 80, 1, 0, 15, 0, 1, 0, 0);
            good(full, 1, 72, 80, 1, 0, 45, 1, 0, 1, 0, 0);
            fault(full, 4, 4, 72, 80, 1, 0, 16);
            fault(full, 4, 4, 72, 80, 1, 0, 46);
        });
        d.says("a length above 60 or not 0 of an object,", c -> {
            classes(c);
            int[] arrays = {20, 24, 29, 32};
            for (int type : arrays) {
                fault(c, 4, 5, 72, 80, 1, 0, type, 61);
                fault(c, 1, 6, 72, 80, 1, 0, type, 60);
                fault(c, 4, 5, join(row(72, 80, 1, 0, type), ALL_64_BITS));
            }
            for (int type = 0; type < 3; type++) {
                fault(c, 4, 5, 72, 80, 1, 0, type, 1);
            }
            good(c, 1, join(row(72, 80, 1, 0, 20, 60), new int[60], row(1, 0, 0)));
            Check.same("60", c.x.thing(3, 0, 2), 60);
            good(c, 1, 72, 80, 1, 0, 2, 0, 1, 0, 0);
        });
    }

    private static void values() {
        Document d = Document.terms();
        d.says("a value that is not of its kind,", c -> {
            classes(c);
            // the edges of a BIT, a BYTE, a SHORT and an INT, and what is next to them
            int[][][] in = {{{0}, {2}}, {{254, 1}, {255, 1}}, {{254, 255, 3}, {255, 255, 3}},
                {{254, 255, 255, 255, 15}, {255, 255, 255, 255, 15}}};
            int[][][] out = {{{1}, {3}, {4}}, {{128, 2}, {129, 2}}, {{128, 128, 4}, {129, 128, 4}},
                {{128, 128, 128, 128, 16}, {129, 128, 128, 128, 16}}};
            for (int kind = 0; kind < 4; kind++) {
                for (int[] v : in[kind]) {
                    good(c, 1, join(row(72, 80, 1, 0, 20 + kind, 2, 0), v, row(1, 0, 0)));
                }
                for (int[] v : out[kind]) {
                    fault(c, 4, 7, join(row(72, 80, 1, 0, 20 + kind, 2, 0), v, row(1, 0, 0)));
                }
                fault(c, 4, 7, join(row(72, 80, 1, 0, 20 + kind, 2, 0), ALL_64_BITS));
            }
            // a field
            fault(c, 4, 7, 72, 80, 1, 0, 0, 0, 0, 128, 2, 1, 0, 0);
            good(c, 1, 72, 80, 1, 0, 0, 0, 0, 255, 1, 1, 0, 0);
        });
        d.says("a thing that is none, or (looked at behind the last thing's values, from the first on) does not FIT,", c -> {
            classes(c);
            good(c, 1, 72, 80, 1, 0, 29, 1, 1, 1, 0, 0);
            fault(c, 4, 6, 72, 80, 1, 0, 29, 1, 2, 1, 0, 0);
            fault(c, 4, 6, join(row(72, 80, 1, 0, 29, 1), ALL_64_BITS));
            fault(c, 4, 6, 72, 80, 2, 0, 29, 1, 3, 1, 2, 0, 1, 0, 0);
            good(c, 2, 72, 80, 2, 0, 29, 1, 2, 1, 2, 0, 1, 0, 0);
            // B.b must be a B: thing 1 is an A, or a B
            fault(c, 4, 8, 72, 80, 2, 0, 1, 0, 0, 0, 2, 1, 0, 0, 0, 0, 1, 0, 0);
            good(c, 2, 72, 80, 2, 0, 1, 0, 0, 0, 2, 1, 1, 0, 0, 0, 0, 1, 0, 0);
            // an array of A's may have a B, an array of B's no A
            good(c, 2, 72, 80, 2, 0, 30, 1, 2, 1, 1, 0, 0, 0, 0, 1, 0, 0);
            fault(c, 4, 6, 72, 80, 2, 0, 31, 1, 2, 1, 0, 0, 0, 0, 1, 0, 0);
            // behind the last thing's values: what is wrong there comes first, what is wrong with the roots does not
            fault(c, 4, 8, 72, 80, 2, 0, 31, 1, 2, 1, 99);
            fault(c, 4, 11, 72, 80, 2, 0, 31, 1, 2, 1, 0, 0, 0, 128, 2);
            fault(c, 1, 11, 72, 80, 2, 0, 31, 1, 2, 1, 0, 0, 0);
            fault(c, 4, 6, 72, 80, 2, 0, 31, 1, 2, 1, 0, 0, 0, 0, 127);
            fault(c, 4, 6, 72, 80, 2, 0, 31, 1, 2, 1, 0, 0, 0, 0);
            // from the first on
            fault(c, 4, 7, 72, 80, 2, 0, 31, 3, 0, 2, 2, 1, 0, 0, 0, 0, 1, 0, 0);
        });
    }

    private static void roots() {
        Document.terms().says("more than 108 roots, a root's number that is not above the one ahead or above 107, a root's thing "
            + "that is none;", c -> {
            classes(c);
            int[] one = {72, 80, 1, 0, 2, 0};
            fault(c, 4, 6, join(one, row(109)));
            fault(c, 1, 7, join(one, row(108)));
            fault(c, 4, 6, join(one, ALL_64_BITS));
            fault(c, 4, 7, join(one, row(1, 108)));
            fault(c, 4, 7, join(one, row(1), ALL_64_BITS));
            good(c, 1, join(one, row(1, 107, 0)));
            Check.same("107", c.x.thing(3, 0, 6), 107);
            fault(c, 4, 9, join(one, row(2, 3, 0, 3, 0)));
            fault(c, 4, 9, join(one, row(2, 3, 0, 2, 0)));
            good(c, 1, join(one, row(2, 3, 0, 4, 0)));
            Check.same("two holders", c.x.thing(3, 0, 7), 2);
            fault(c, 4, 8, join(one, row(1, 0, 1)));
            fault(c, 4, 8, join(one, row(1, 0), ALL_64_BITS));
            fault(c, 4, 5, 72, 80, 0, 1, 0, 0);
            int[] all = new int[217];
            all[0] = 108;
            for (int k = 0; k < 108; k++) {
                all[1 + 2 * k] = k;
            }
            good(c, 1, join(one, all));
            Check.same("108 holders", c.x.thing(3, 0, 7), 108);
            good(c, 0, 72, 80, 0, 0);
        });
    }

    private static void slots() {
        Document.terms().says("slots above 4000 in all (at the length);", c -> {
            // a slot takes a byte, so a tape never tells of more: the most that it can tell of is read, in objects of 96
            for (int k = 0; k < 16; k++) {
                c.type("C" + k, k - 1, 0);
                for (int f = 0; f < 6; f++) {
                    c.field(k, "f" + f, f == 0 ? 5 : 0);
                }
            }
            int[] bytes = new int[3 + 40 * 99 + 3];
            bytes[0] = 72;
            bytes[1] = 80;
            bytes[2] = 40;
            for (int t = 0; t < 40; t++) {
                bytes[3 + t * 99] = t;
                bytes[4 + t * 99] = 15;
                bytes[6 + t * 99] = t < 39 ? t + 2 : 0;
            }
            bytes[bytes.length - 3] = 1;
            good(c, 40, bytes);
            Check.same("the last slot", c.x.slot(3, 39, 95), 0);
            Check.same("its depth", c.x.picture(3, 5), 39);
            Check.same("it is as long again", c.x.bytes(3), bytes.length + 4);
        });
    }

    private static void checks() {
        Document d = Document.terms();
        d.says("5 the CHECK (its first byte; with less than four bytes left it is 1);", c -> {
            classes(c);
            int[] good = Check.checked(72, 80, 1, 0, 2, 0, 1, 0, 0);
            for (int k = 9; k < 13; k++) {
                for (int bit = 0; bit < 8; bit++) {
                    c.tape(good);
                    c.x.flip(k, bit);
                    Check.refused("bit " + bit + " of byte " + k, Check.ARGUMENT, () -> c.x.load(3));
                    Check.same("fault", c.x.fault(0), 5);
                    Check.same("place", c.x.fault(1), 9);
                }
            }
            for (int n = 9; n < 13; n++) {
                fault(c, 1, n, java.util.Arrays.copyOf(good, n));
            }
            // three bytes that are wrong are too few all the same
            fault(c, 1, 12, 72, 80, 1, 0, 2, 0, 1, 0, 0, 9, 9, 9);
            // it comes ahead of bytes behind it, and of things that are not reached
            fault(c, 5, 9, 72, 80, 1, 0, 2, 0, 1, 0, 0, 9, 9, 9, 9, 9);
            fault(c, 5, 7, 72, 80, 1, 0, 2, 0, 0, 9, 9, 9, 9);
        });
        d.says("6 bytes behind it;", c -> {
            classes(c);
            int[] good = Check.checked(72, 80, 1, 0, 2, 0, 1, 0, 0);
            fault(c, 6, 13, join(good, row(0)));
            fault(c, 6, 13, join(good, row(1, 2, 3)));
            fault(c, 6, 13, join(good, good));
            fault(c, 6, 8, join(Check.checked(72, 80, 0, 0), row(72)));
            fault(c, 6, 11, join(Check.checked(72, 80, 1, 0, 2, 0, 0), row(7)));
        });
    }

    private static void order() {
        Document.terms().says("7 things that are not in the order of a walk from these roots, or not reached (at the object's "
            + "number of the first that is not so).", c -> {
            classes(c);
            fault(c, 7, 3, Check.checked(72, 80, 1, 0, 2, 0, 0));
            fault(c, 7, 3, Check.checked(72, 80, 2, 9, 2, 0, 8, 2, 0, 2, 0, 1, 1, 0));
            good(c, 2, 72, 80, 2, 9, 2, 0, 8, 2, 0, 2, 0, 0, 1, 1);
            // thing 0 holds 1, 3, 2
            fault(c, 7, 12, Check.checked(72, 80, 4, 0, 29, 3, 2, 4, 3, 5, 2, 0, 6, 2, 0, 7, 2, 0, 1, 0, 0));
            good(c, 4, 72, 80, 4, 0, 29, 3, 2, 3, 4, 5, 2, 0, 6, 2, 0, 7, 2, 0, 1, 0, 0);
            // a second root comes ahead of what the first one holds
            fault(c, 7, 7, Check.checked(72, 80, 3, 0, 29, 1, 2, 5, 2, 0, 6, 2, 0, 2, 0, 0, 1, 2));
            good(c, 3, 72, 80, 3, 0, 29, 1, 3, 5, 2, 0, 6, 2, 0, 2, 0, 0, 1, 1);
            // the last one is not reached; a pair that nothing else holds is not
            fault(c, 7, 10, Check.checked(72, 80, 3, 0, 29, 1, 2, 5, 2, 0, 6, 2, 0, 1, 0, 0));
            fault(c, 7, 6, Check.checked(72, 80, 3, 9, 2, 0, 1, 29, 1, 3, 2, 29, 1, 2, 1, 0, 0));
            // what thing 1 holds comes behind what thing 0 holds
            fault(c, 7, 12, Check.checked(72, 80, 4, 0, 29, 2, 2, 4, 1, 29, 1, 3, 5, 2, 0, 6, 2, 0, 1, 0, 0));
            good(c, 4, 72, 80, 4, 0, 29, 2, 2, 3, 1, 29, 1, 4, 5, 2, 0, 6, 2, 0, 1, 0, 0);
            int[] ways = {-1, 0, 0, 1};
            int[] slots = {0, 0, 1, 0};
            int[] depths = {0, 1, 1, 2};
            for (int t = 0; t < 4; t++) {
                Check.same("its way's thing", c.x.thing(3, t, 5), ways[t]);
                Check.same("its way's slot", c.x.thing(3, t, 6), slots[t]);
                Check.same("its depth", c.x.thing(3, t, 4), depths[t]);
            }
        });
    }

    private static void using() {
        Document.terms().says("Classes of things that were read are USED.", c -> {
            HeapWorks x = classes(c);
            c.type("V");
            fault(c, 7, 3, Check.checked(72, 80, 1, 0, 2, 0, 0));
            Check.same("a fault uses none", x.typeLook(2, 5), 0);
            good(c, 1, 72, 80, 1, 0, 32, 1, 0, 1, 0, 0);
            Check.same("an array's class is not used", x.typeLook(2, 5), 0);
            good(c, 2, 72, 80, 2, 0, 2, 0, 1, 1, 0, 0, 0, 0, 2, 0, 0, 1, 1);
            int[] due = {1, 1, 1, 0};
            for (int k = 0; k < 4; k++) {
                Check.same("class " + k, x.typeLook(k, 5), due[k]);
            }
            c.text("f");
            Check.refused("no new field", Check.STATE, () -> x.field(2, 0, 0, false));
            Check.refused("no new field", Check.STATE, () -> x.field(1, 0, 0, false));
            Check.same("another one may have one", x.field(3, 0, 0, false), 0);
            Check.same("no object was made", x.about(2), 0);
            Check.same("nor is there one of it", x.typeLook(2, 7), 0);
        });
    }

    // A picture of so many bytes: an array of BITs in picture p.
    private static void sized(Check c, int p, int bytes) {
        int[] all = new int[bytes - 4];
        int[] head = {72, 80, 1, 0, 20, bytes - 13};
        System.arraycopy(head, 0, all, 0, 6);
        all[bytes - 7] = 1;
        c.tape(Check.checked(all));
        Check.same("load", c.x.load(p), 1);
        Check.same("its bytes", c.x.bytes(p), bytes);
    }

    private static void logging() {
        Document d = Document.terms();
        d.says("THE LOG keeps pictures: RECORDS of the number of bytes (two, the lowest first), the bytes, at most 8000 bytes in "
            + "all.", c -> {
            HeapWorks x = c.x;
            Check.same("an empty picture", x.keep(3), 1);
            Check.same("2 and 8", x.about(8), 10);
            x.reopen(0);
            // a record of more than 255 bytes: five arrays of 60 BITs
            for (int k = 0; k < 5; k++) {
                x.root(x.make(20, 60), true);
            }
            x.take(0);
            int size = x.bytes(0);
            Check.same("its bytes", size, 2 + 1 + 5 * 63 + 1 + 10 + 4);
            int all = 0;
            int records = 0;
            while (all + 2 + size <= 8000) {
                records++;
                all += 2 + size;
                Check.same("records", x.keep(0), records);
                Check.same("bytes", x.about(8), all);
            }
            Check.same("23 records", records, 23);
            Check.refused("more than 8000", Check.STATE, () -> x.keep(0));
            sized(c, 1, 8000 - all - 2 - 220);
            x.keep(1);
            for (int k = 0; k < 22; k++) {
                x.keep(3);
            }
            Check.same("8000", x.about(8), 8000);
            Check.refused("no more", Check.STATE, () -> x.keep(3));
            Check.same("all are whole", x.reopen(8000), 23 + 1 + 22);
            Check.same("the 23rd", x.recall(2, 22), 5);
            Check.same("the 24th", x.recall(2, 23), 1);
            Check.same("the last", x.recall(2, 45), 0);
        });
        d.says("CUTTING it leaves its first bytes (its pictures' FAULTS are not told by fault()).", c -> {
            HeapWorks x = c.x;
            sized(c, 0, 20);
            for (int k = 0; k < 3; k++) {
                x.keep(0);
            }
            c.text("@");
            Check.refused("a fault", Check.ARGUMENT, () -> x.ask(0));
            Check.same("cut in the third", x.reopen(65), 2);
            Check.same("44", x.about(8), 44);
            Check.same("its fault is not told", x.fault(0), 2);
            Check.same("nor its place", x.fault(1), 0);
            Check.same("what is cut off is gone", x.reopen(66), 2);
            Check.same("no cut", x.reopen(44), 2);
            Check.same("the second", x.recall(1, 1), 1);
        });
        d.says("REOPENING reads records from the left, up to the first that is not whole or has a FAULT; the rest goes; the "
            + "pictures in them are KEPT.", c -> {
            HeapWorks x = c.x;
            int[] sizes = {14, 30, 20};
            int[] ends = {16, 48, 70};
            for (int n = 70; n >= 0; n--) {
                for (int k = 0; k < 3; k++) {
                    sized(c, 0, sizes[k]);
                    Check.same("keep", x.keep(0), k + 1);
                }
                Check.same("bytes", x.about(8), 70);
                int whole = n >= ends[2] ? 3 : n >= ends[1] ? 2 : n >= ends[0] ? 1 : 0;
                Check.same("cut to " + n, x.reopen(n), whole);
                Check.same("records", x.about(7), whole);
                Check.same("bytes", x.about(8), whole == 0 ? 0 : ends[whole - 1]);
                for (int k = 0; k < whole; k++) {
                    Check.same("kept", x.recall(1, k), 1);
                    Check.same("its length", x.thing(1, 0, 2), sizes[k] - 13);
                }
                Check.refused("the rest went", Check.ELEMENT, () -> x.recall(1, whole));
                x.reopen(0);
            }
        });
    }

    private static void promise46() {
        Document d = Document.promise(46);
        d.says("The tape has the BYTES of picture p: how many.", c -> {
            HeapWorks x = classes(c);
            x.make(2, 0);
            x.root(0, true);
            x.take(2);
            c.text("what was there goes, be it ever so long");
            Check.same("how many", x.bytes(2), 13);
            tapeIs(c, Check.checked(72, 80, 1, 0, 2, 0, 1, 0, 0));
            Check.same("one without things", x.bytes(0), 8);
            tapeIs(c, Check.checked(72, 80, 0, 0));
        });
        d.says("IndexOutOfBoundsException: p.", c -> {
            c.text("stays");
            for (int p : NO_PICTURE) {
                Check.refused("bytes " + p, Check.INDEX, () -> c.x.bytes(p));
            }
            Check.same("the tape stays", c.x.about(0), 5);
        });
        d.says("IllegalStateException: they are more than 4000.", c -> {
            HeapWorks x = longs(c);
            Check.same("4000", x.bytes(0), 4000);
            Check.same("it is read", x.load(1), 7);
            Check.same("the same", x.growth(0, 1, 2), 0);
            x.set(6, 59, 64);
            x.take(0);
            c.text("stays");
            Check.refused("4001", Check.STATE, () -> x.bytes(0));
            Check.same("the tape stays", x.about(0), 5);
        });
    }

    // Seven arrays of 60 LONGs, in picture 0, of 4000 bytes: 2 + 1 + 7 * 3 + 1 + 14 + 4 are 43, 393 values take 10 bytes
    // each and 27 one.
    private static HeapWorks longs(Check c) {
        HeapWorks x = c.x;
        for (int o = 0; o < 7; o++) {
            x.make(24, 60);
            x.root(o, true);
            for (int k = 0; k < 60; k++) {
                x.set(o, k, o * 60 + k < 393 ? Long.MIN_VALUE : 0);
            }
        }
        x.take(0);
        return x;
    }

    private static void promise48() {
        Document d = Document.promise(48);
        d.says("Picture p is what the tape's BYTES tell: how many things.", c -> {
            HeapWorks x = classes(c);
            x.make(1, 0);
            x.make(31, 2);
            x.set(0, 0, 1);
            x.set(0, 1, -128);
            x.set(0, 2, 0);
            x.set(1, 1, 0);
            x.root(0, true);
            x.setStatic(1, 0, 1);
            x.take(0);
            x.bytes(0);
            for (int p = 1; p < 4; p++) {
                Check.same("things", x.load(p), 2);
                for (int t = 0; t < 2; t++) {
                    for (int what = 0; what <= 12; what++) {
                        Check.same("thing " + t + " what " + what, x.thing(p, t, what), x.thing(0, t, what));
                    }
                    for (int k = 0; k < x.thing(0, t, 7); k++) {
                        Check.same("holder", x.holder(p, t, k, 0), x.holder(0, t, k, 0));
                        Check.same("its slot", x.holder(p, t, k, 1), x.holder(0, t, k, 1));
                    }
                }
                for (int k = 0; k < 3; k++) {
                    Check.same("slot " + k, x.slot(p, 0, k), x.slot(0, 0, k));
                }
            }
            Check.same("the tape stays", x.about(0), x.bytes(0));
            c.tape(Check.checked(72, 80, 0, 0));
            Check.same("in the place of what it was", x.load(1), 0);
            Check.same("no things", x.picture(1, 0), 0);
            Check.same("no object was made", x.about(2), 2);
        });
        d.says("Exceptions: IndexOutOfBoundsException: p.", c -> {
            c.tape(9);
            for (int p : NO_PICTURE) {
                Check.refused("load " + p, Check.INDEX, () -> c.x.load(p));
            }
            Check.same("no fault", c.x.fault(0), 0);
        });
        d.says("IllegalArgumentException: a FAULT (the picture stays).", c -> {
            HeapWorks x = classes(c);
            x.make(29, 1);
            x.set(0, 0, 0);
            x.root(0, true);
            x.take(3);
            x.choose(3, 0, true);
            x.lost(3);
            int[][] wrong = {{72}, {1}, {72, 80, 128, 0}, {72, 80, 1, 0, 99}, {72, 80, 0, 0, 1, 2, 3, 4},
                join(Check.checked(72, 80, 0, 0), row(1)), Check.checked(72, 80, 1, 0, 2, 0, 0)};
            for (int k = 0; k < wrong.length; k++) {
                c.tape(wrong[k]);
                Check.refused("fault " + (k + 1), Check.ARGUMENT, () -> x.load(3));
                Check.same("fault", x.fault(0), k + 1);
                Check.same("its thing", x.thing(3, 0, 0), 0);
                Check.same("its ring", x.thing(3, 0, 11), 0);
                Check.same("its slot", x.slot(3, 0, 0), 0);
                Check.same("what is cut", x.lostThing(3, 0), 0);
                Check.same("what is chosen", x.lost(3), 1);
                Check.same("the tape", x.about(0), wrong[k].length);
            }
        });
    }

    private static void promise49() {
        Document d = Document.promise(49);
        d.says("Picture p comes to the LOG's end: how many records.", c -> {
            HeapWorks x = c.x;
            for (int p = 0; p < 4; p++) {
                x.root(x.make(20, p), true);
                x.take(p);
                Check.same("records", x.keep(p), p + 1);
            }
            c.text("the tape stays");
            x.keep(0);
            Check.same("the tape stays", x.about(0), 14);
            int[] due = {1, 2, 3, 4, 1};
            for (int k = 0; k < 5; k++) {
                Check.same("record " + k, x.recall(3, k), due[k]);
            }
        });
        d.says("IndexOutOfBoundsException: p.", c -> {
            for (int p : NO_PICTURE) {
                Check.refused("keep " + p, Check.INDEX, () -> c.x.keep(p));
            }
            Check.same("no record", c.x.about(7), 0);
        });
        d.says("IllegalStateException: it would have more than 8000 bytes (or the picture more than 4000).", c -> {
            HeapWorks x = longs(c);
            Check.same("a picture of 4000", x.keep(0), 1);
            Check.same("4002", x.about(8), 4002);
            Check.refused("8004", Check.STATE, () -> x.keep(0));
            x.set(6, 59, 64);
            x.take(0);
            x.reopen(0);
            Check.refused("a picture of 4001", Check.STATE, () -> x.keep(0));
            Check.same("no record", x.about(7), 0);
            // 3998 and 2, twice, are 8000: two values of one byte less
            x.set(6, 59, 0);
            x.set(6, 32, 0);
            x.take(0);
            Check.same("3991", x.bytes(0), 3991);
            x.set(6, 32, 1L << 47);
            x.take(0);
            Check.same("3997", x.bytes(0), 3997);
            x.set(6, 59, 64);
            x.take(0);
            Check.same("3998", x.bytes(0), 3998);
            Check.same("4000", x.keep(0), 1);
            Check.same("8000", x.keep(0), 2);
            Check.same("full", x.about(8), 8000);
            x.reopen(4000);
            x.set(6, 58, 64);
            x.take(0);
            Check.same("3999", x.bytes(0), 3999);
            Check.refused("8001", Check.STATE, () -> x.keep(0));
            Check.same("one record", x.about(7), 1);
        });
    }

    private static void promise50() {
        Document.promise(50).says("The log is CUT to its first n bytes (as many as it has, if n is more; 0 if n is below 0), and "
            + "REOPENED: how many records.", c -> {
            HeapWorks x = c.x;
            Check.same("an empty one", x.reopen(0), 0);
            Check.same("an empty one", x.reopen(MOST), 0);
            for (int k = 0; k < 3; k++) {
                x.keep(0);
            }
            int[] all = {30, 31, 8000, 8001, MOST};
            for (int n : all) {
                Check.same("all of it", x.reopen(n), 3);
                Check.same("30", x.about(8), 30);
            }
            Check.same("29", x.reopen(29), 2);
            Check.same("20", x.about(8), 20);
            Check.same("10", x.reopen(10), 1);
            Check.same("9", x.reopen(9), 0);
            int[] below = {0, -1, LEAST};
            for (int n : below) {
                x.keep(0);
                Check.same("reopen " + n, x.reopen(n), 0);
                Check.same("no bytes", x.about(8), 0);
                Check.same("no records", x.about(7), 0);
            }
        });
    }

    private static void promise51() {
        Document d = Document.promise(51);
        d.says("Picture p is what record k of the log keeps: how many things.", c -> {
            HeapWorks x = c.x;
            x.keep(0);
            x.make(29, 1);
            x.make(20, 2);
            x.set(0, 0, 1);
            x.root(0, true);
            x.take(0);
            x.keep(0);
            x.set(0, 0, -1);
            x.take(0);
            x.keep(0);
            for (int p = 0; p < 4; p++) {
                Check.same("the second", x.recall(p, 1), 2);
                Check.same("its thing", x.thing(p, 1, 0), 1);
                Check.same("its way", x.thing(p, 1, 5), 0);
                Check.same("the third", x.recall(p, 2), 1);
                Check.same("its slot", x.slot(p, 0, 0), -1);
                Check.same("the first", x.recall(p, 0), 0);
                Check.same("no thing", x.thing(p, 0, 0), -1);
            }
            Check.same("the log stays", x.about(7), 3);
            Check.same("no fault is told", x.fault(1), -1);
        });
        d.says("IndexOutOfBoundsException: p.", c -> {
            c.x.keep(0);
            for (int p : NO_PICTURE) {
                Check.refused("recall " + p, Check.INDEX, () -> c.x.recall(p, 0));
                Check.refused("ahead of a record", Check.INDEX, () -> c.x.recall(p, 1));
            }
        });
        d.says("NoSuchElementException: no such record.", c -> {
            Check.refused("none at all", Check.ELEMENT, () -> c.x.recall(0, 0));
            c.x.make(20, 0);
            c.x.root(0, true);
            c.x.take(0);
            c.x.keep(0);
            int[] none = {-1, 1, 800, LEAST, MOST};
            for (int k : none) {
                Check.refused("record " + k, Check.ELEMENT, () -> c.x.recall(0, k));
            }
            Check.same("the picture stays", c.x.picture(0, 0), 1);
        });
    }

    private static void promise52() {
        Document d = Document.promise(52);
        d.says("Bytes of the tape (what = 0), classes (1), objects that are there (2), slots (3), told roots (4), writes (5), "
            + "writes that can be undone (6), records of the log (7), its bytes (8), watches (9), promises (10), rows of the "
            + "latest ask() (11), relations (12).", c -> {
            HeapWorks x = c.x;
            about(x, 0, 0, 0, 0, 0, 0, 0, 0, 0, 0, 0, 0, 0);
            c.type("A");
            c.link(0, "l", -1);
            c.field(0, "s", 5, -1, true);
            c.type("B");
            about(x, 0, 2, 0, 0, 0, 0, 0, 0, 0, 0, 0, 0, 0);
            x.make(0, 0);
            x.make(1, 0);
            x.make(20, 7);
            x.make(0, 0);
            about(x, 0, 2, 4, 9, 0, 0, 0, 0, 0, 0, 0, 0, 0);
            x.root(0, true);
            x.root(3, true);
            x.set(0, 0, 1);
            x.setStatic(0, 0, 1);
            x.set(0, 0, 1);
            about(x, 0, 2, 4, 9, 2, 3, 3, 0, 0, 0, 0, 0, 0);
            x.undo();
            about(x, 0, 2, 4, 9, 2, 3, 2, 0, 0, 0, 0, 0, 0);
            Check.same("the array goes", x.collect(), 1);
            about(x, 0, 2, 3, 2, 2, 3, 0, 0, 0, 0, 0, 0, 0);
            x.take(0);
            x.keep(0);
            x.keep(1);
            x.watch(0, 0, 0);
            c.text("true");
            x.promise();
            about(x, 4, 2, 3, 2, 2, 3, 0, 2, 37, 1, 1, 0, 0);
            c.ask(0, "things");
            about(x, 6, 2, 3, 2, 2, 3, 0, 2, 37, 1, 1, 3, 0);
            c.text("p(x) if A : x, q(x);");
            x.rules(0);
            about(x, 20, 2, 3, 2, 2, 3, 0, 2, 37, 1, 1, 3, 2);
            x.reopen(12);
            about(x, 20, 2, 3, 2, 2, 3, 0, 0, 0, 1, 1, 3, 2);
        });
        d.says("NONE for another what.", c -> {
            int[] whats = {-1, 13, 100, LEAST, MOST};
            for (int what : whats) {
                Check.same("what " + what, c.x.about(what), -1);
            }
        });
    }

    private static void about(HeapWorks x, int... due) {
        for (int what = 0; what < 13; what++) {
            Check.same("about " + what, x.about(what), due[what]);
        }
    }
}
