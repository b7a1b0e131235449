/** The tape and names, word for word: promises 1 to 6 and 47. */
final class TapeSentences {
    private static final String KEYWORDS = "all own things thing where get and or not null true false is in count sum most "
        + "least some each size kept depth length class slots held from it";

    static void run() {
        tape();
        names();
        numbering();
        fresh();
        feedAndEnd();
        wipeFlipCut();
    }

    private static void tape() {
        Document.terms().says("THE TAPE has bytes (0 .. 255), at most 4000.", c -> {
            for (int k = 0; k < 4000; k += 20) {
                int[] twenty = new int[20];
                for (int i = 0; i < 20; i++) {
                    twenty[i] = (k + i) % 256;
                }
                c.add(twenty);
            }
            for (int k = 0; k < 4000; k++) {
                Check.same("byte " + k, c.x.letter(k), k % 256);
            }
            Check.same("full", c.x.end(1), -1);
            Check.same("4000", c.x.about(0), 4000);
            Check.same("no byte more", c.x.letter(4000), -1);
        });
    }

    private static void isName(Check c, String text) {
        c.text(text);
        int classes = c.x.about(1);
        Check.same(text + " is a name", c.x.type(-1, 0), classes);
    }

    private static void isNone(Check c, String text) {
        c.text(text);
        int classes = c.x.about(1);
        Check.refused("'" + text + "' is no name of a class", Check.ARGUMENT, () -> c.x.type(-1, 0));
        Check.refused("'" + text + "' is no name of a field", Check.ARGUMENT, () -> c.x.field(0, 0, 0, false));
        Check.same("no class is new", c.x.about(1), classes);
        Check.same("the tape stays", c.x.about(0), text.length());
    }

    private static void names() {
        Document d = Document.terms();
        d.says("NAMES: a letter (A .. Z, a .. z), then letters and digits,", c -> {
            String[] names = {"A", "Z", "a", "z", "AZ", "az", "a0", "a9", "Z0a9"};
            for (String name : names) {
                isName(c, name);
            }
            // the bytes next to letters and digits
            String[] none = {"0", "9", "0a", "9a", "@", "[", "`", "{", "/", ":", "a@", "a[", "a`", "a{", "a/", "a:", "a ", " a",
                "a\n", "a\0", "\u00c1", "a\u00e1", "_a", "a_", "a-b", "a.b", "a b"};
            for (String text : none) {
                isNone(c, text);
            }
        });
        d.says("at most 10 in all,", c -> {
            isName(c, "abcdefghij");
            isName(c, "a123456789");
            isName(c, "abcdefghi");
            isNone(c, "abcdefghijk");
            isNone(c, "a1234567890");
            isNone(c, Check.repeat("a", 64));
            isNone(c, Check.repeat("a", 4000));
            isNone(c, "");
        });
        d.says("no KEYWORD (see QUESTIONS).", c -> {
            isName(c, "A");
            for (String keyword : KEYWORDS.split(" ")) {
                isNone(c, keyword);
            }
            String[] near = {"All", "iT", "al", "alll", "if", "link", "thingss", "allown"};
            for (String name : near) {
                isName(c, name);
            }
        });
        d.says("Where a call takes a name, the tape is it, and is empty behind that (if nothing throws).", c -> {
            c.text("Ab");
            Check.refused("no loader", Check.INDEX, () -> c.x.type(-1, 4));
            Check.same("the tape stays", c.x.about(0), 2);
            Check.same("a class", c.x.type(-1, 0), 0);
            Check.same("it is empty", c.x.about(0), 0);
            Check.same("without a byte", c.x.letter(0), -1);
            Check.refused("empty is no name", Check.ARGUMENT, () -> c.x.type(-1, 1));
            c.text("fi");
            Check.refused("no kind", Check.ARGUMENT, () -> c.x.field(0, 6, 0, false));
            Check.same("the tape stays", c.x.about(0), 2);
            Check.same("its letter", c.x.letter(1), 'i');
            Check.same("a field", c.x.field(0, 0, 0, false), 0);
            Check.same("it is empty", c.x.about(0), 0);
        });
    }

    private static void numbering() {
        Document d = Document.terms();
        d.says("All is numbered from 0 on.", c -> {
            HeapWorks x = c.x;
            Check.same("class", c.type("A"), 0);
            Check.same("field", c.field(0, "n", 3), 0);
            Check.same("the next field", c.link(0, "l", -1), 1);
            Check.same("the next class", c.type("B"), 1);
            Check.same("object", x.make(0, 0), 0);
            Check.same("the next object", x.make(0, 0), 1);
            Check.same("watch", x.watch(0, 0, 0), 0);
            c.text("true");
            Check.same("promise", x.promise(), 0);
            Check.same("the next promise", x.promise(), 1);
            Check.same("write", x.set(0, 0, 7), 0);
            Check.same("the next write", x.set(0, 1, 0), 1);
            Check.same("row", x.row(0, 0, 3), 7);
            x.root(0, true);
            x.take(0);
            Check.same("thing", x.thing(0, 0, 0), 0);
            Check.same("root", x.thing(0, 0, 6), 0);
            Check.same("slot", x.slot(0, 0, 0), 7);
            Check.same("ring", x.member(0, 0, 0, 0), 0);
            Check.same("ask", c.ask(0, "things"), 1);
            Check.same("row", x.answer(0, 0), 0);
            Check.same("keep", x.keep(0), 1);
            Check.same("record", x.recall(1, 0), 1);
        });
        d.says("What throws changes nothing but what is told, and, if a question or rules are at fault, their FAULT.", c -> {
            HeapWorks x = c.x;
            stir(c);
            c.text("keep me");
            long[] before = look(x);
            refuseAll(x);
            long[] behind = look(x);
            for (int k = 0; k < before.length; k++) {
                Check.same("look " + k, behind[k], before[k]);
            }
            c.text("things get");
            Check.refused("a question at fault", Check.ARGUMENT, () -> x.ask(0));
            Check.same("its fault", x.fault(0), 1);
            Check.same("its place", x.fault(1), 10);
            c.text("p(x) @");
            Check.refused("rules at fault", Check.ARGUMENT, () -> x.rules(0));
            Check.same("its fault", x.fault(0), 2);
            Check.same("its place", x.fault(1), 5);
        });
    }

    // Something of all that there may be.
    private static void stir(Check c) {
        HeapWorks x = c.x;
        c.type("A");
        c.field(0, "n", 1);
        c.link(0, "l", 0);
        c.field(0, "s", 5, 0, true);
        c.type("B");
        for (int k = 0; k < 3; k++) {
            x.make(0, 0);
        }
        x.make(1, 0);
        x.root(0, true);
        x.watch(0, 0, 0);
        c.text("true");
        x.promise();
        x.promise();
        x.promise();
        x.set(0, 1, 1);
        x.set(0, 0, 5);
        x.setStatic(0, 0, 2);
        x.take(0);
        x.choose(0, 1, true);
        x.lost(0);
        x.growth(1, 0, 0);
        x.keep(0);
        c.ask(0, "things get it.n");
        c.text("p(x) if A : x;");
        x.rules(0);
    }

    private static long[] look(HeapWorks x) {
        StringBuilder s = new StringBuilder();
        for (int k = 0; k <= 12; k++) {
            s.append(x.about(k)).append(' ');
        }
        for (int k = 0; k < 7; k++) {
            s.append(x.letter(k)).append(' ').append(x.typeLook(0, k)).append(' ').append(x.typeLook(1, k)).append(' ');
        }
        for (int o = 0; o < 3; o++) {
            s.append(x.get(o, 0)).append(' ').append(x.get(o, 1)).append(' ').append(x.object(o, 0)).append(' ');
        }
        s.append(x.getStatic(0, 0)).append(' ').append(x.rows(0)).append(' ').append(x.row(0, 0, 3)).append(' ');
        for (int k = 0; k < 3; k++) {
            s.append(x.broken(k)).append(' ').append(x.answer(k, 0)).append(' ').append(x.answer(k, 2)).append(' ');
            s.append(x.thing(0, k, 0)).append(' ').append(x.grown(k)).append(' ').append(x.lostThing(0, k)).append(' ');
            s.append(x.isFact(0, k, 0) ? 1 : 0).append(' ');
        }
        s.append(x.facts(0)).append(' ').append(x.fault(0)).append(' ').append(x.fault(1));
        String[] parts = s.toString().split(" ");
        long[] all = new long[parts.length];
        for (int k = 0; k < all.length; k++) {
            all[k] = Long.parseLong(parts[k]);
        }
        return all;
    }

    private static void refuseAll(HeapWorks x) {
        Check.refused("type", Check.INDEX, () -> x.type(9, 0));
        Check.refused("type", Check.ARGUMENT, () -> x.type(-1, 0));
        Check.refused("field", Check.INDEX, () -> x.field(9, 0, 0, false));
        Check.refused("field", Check.ARGUMENT, () -> x.field(1, 0, 0, false));
        Check.refused("make", Check.ARGUMENT, () -> x.make(20, 61));
        Check.refused("root", Check.ELEMENT, () -> { x.root(9, true); return 0; });
        Check.refused("set", Check.ELEMENT, () -> x.set(0, 9, 0));
        Check.refused("set", Check.ARGUMENT, () -> x.set(0, 0, 128));
        Check.refused("setStatic", Check.ELEMENT, () -> x.setStatic(0, 1, 0));
        Check.refused("setStatic", Check.ARGUMENT, () -> x.setStatic(0, 0, 3));
        Check.refused("get", Check.ELEMENT, () -> x.get(0, 2));
        Check.refused("getStatic", Check.ELEMENT, () -> x.getStatic(1, 0));
        Check.refused("swap", Check.ELEMENT, () -> x.swap(0, 9));
        Check.refused("swap", Check.ARGUMENT, () -> x.swap(1, 3));
        Check.refused("copy", Check.ELEMENT, () -> x.copy(9, 0));
        Check.refused("copy", Check.ARGUMENT, () -> x.copy(0, 3));
        Check.refused("watch", Check.ELEMENT, () -> x.watch(0, 3, 0));
        Check.refused("watch", Check.ARGUMENT, () -> x.watch(0, 0, 4));
        Check.refused("row", Check.ELEMENT, () -> x.row(0, 1, 0));
        Check.refused("promise", Check.STATE, () -> x.promise());
        Check.refused("broken", Check.ELEMENT, () -> x.broken(3));
        Check.refused("take", Check.INDEX, () -> x.take(4));
        Check.refused("slot", Check.ELEMENT, () -> x.slot(0, 0, 2));
        Check.refused("holder", Check.ELEMENT, () -> x.holder(0, 0, 1, 0));
        Check.refused("member", Check.ELEMENT, () -> x.member(0, 0, 0, 0));
        Check.refused("lost", Check.INDEX, () -> x.lost(4));
        Check.refused("growth", Check.INDEX, () -> x.growth(0, 1, 3));
        Check.refused("like", Check.ELEMENT, () -> x.like(0, 0, 1, 0));
        Check.refused("ask", Check.INDEX, () -> x.ask(4));
        Check.refused("answer", Check.ELEMENT, () -> x.answer(3, 0));
        Check.refused("rules", Check.INDEX, () -> x.rules(4));
        Check.refused("isFact", Check.ELEMENT, () -> x.isFact(1, 0, 0));
        Check.refused("bytes", Check.INDEX, () -> x.bytes(4));
        Check.refused("load", Check.INDEX, () -> x.load(4));
        Check.refused("keep", Check.INDEX, () -> x.keep(4));
        Check.refused("recall", Check.INDEX, () -> x.recall(4, 0));
        Check.refused("recall", Check.ELEMENT, () -> x.recall(0, 1));
    }

    private static void fresh() {
        Document.promise(1).says("Nothing on the tape, no classes, no objects, no pictures, nothing kept.", c -> {
            HeapWorks x = c.x;
            for (int what = 0; what <= 12; what++) {
                Check.same("about " + what, x.about(what), 0);
            }
            Check.same("no byte", x.letter(0), -1);
            Check.same("no class", x.typeLook(0, 0), -1);
            Check.same("no field", x.fieldLook(0, 0, 0), -1);
            Check.same("no object", x.object(0, 0), -1);
            for (int p = 0; p < 4; p++) {
                Check.same("no things", x.picture(p, 0), 0);
                Check.same("no thing", x.thing(p, 0, 0), -1);
                Check.same("nothing cut", x.lostThing(p, 0), -1);
            }
            Check.same("nothing grown", x.grown(0), -1);
            Check.same("no relation", x.facts(0), -1);
            Check.same("no fault", x.fault(0), 0);
            Check.same("no place", x.fault(1), -1);
            Check.same("no watch", x.rows(0), -1);
            Check.refused("no promise", Check.ELEMENT, () -> x.broken(0));
            Check.refused("no row", Check.ELEMENT, () -> x.answer(0, 0));
            Check.refused("no record", Check.ELEMENT, () -> x.recall(0, 0));
            Check.same("nothing to undo", x.undo(), -1);
            Check.same("nothing to collect", x.collect(), 0);
            Check.same("nothing to reopen", x.reopen(8000), 0);
        });
    }

    private static void feedAndEnd() {
        Document feed = Document.promise(2);
        feed.says("Puts twenty bytes ready, those of a first, the highest of each first.", c -> {
            c.x.feed(0x00010203, 0x04050607, 0x08090A0B, 0x7F80FEFF, 0xFF000001);
            int[] due = {0, 1, 2, 3, 4, 5, 6, 7, 8, 9, 10, 11, 127, 128, 254, 255, 255, 0, 0, 1};
            Check.same("nothing comes yet", c.x.about(0), 0);
            c.x.end(20);
            for (int k = 0; k < 20; k++) {
                Check.same("byte " + k, c.x.letter(k), due[k]);
            }
            c.x.feed(-1, -1, -1, -1, -1);
            c.x.feed(0x41000000, 0, 0, 0, 0);
            c.x.end(2);
            Check.same("the later feed", c.x.letter(20), 0x41);
            Check.same("all twenty of it", c.x.letter(21), 0);
        });
        feed.says("(They are 0 at first, and behind each end() that answers a number.)", c -> {
            Check.same("at first", c.x.end(20), 20);
            Check.same("0", c.x.letter(0) + c.x.letter(19), 0);
            c.x.feed(-1, -1, -1, -1, -1);
            c.x.end(1);
            c.x.end(20);
            Check.same("it was there", c.x.letter(20), 255);
            Check.same("0 behind it", c.x.letter(21) + c.x.letter(40), 0);
            c.x.feed(-1, -1, -1, -1, -1);
            Check.same("none of them", c.x.end(0), 41);
            c.x.end(1);
            Check.same("0 behind an end of none", c.x.letter(41), 0);
            c.x.feed(-1, -1, -1, -1, -1);
            Check.same("no number", c.x.end(21), -1);
            c.x.end(1);
            Check.same("they stay behind NONE", c.x.letter(42), 255);
        });
        Document end = Document.promise(3);
        end.says("The first n of the bytes that are ready come to the tape: how many it has.", c -> {
            for (int n = 0, had = 0; n <= 20; n++) {
                c.x.feed(0x01020304, 0x05060708, 0x090A0B0C, 0x0D0E0F10, 0x11121314);
                Check.same("end(" + n + ")", c.x.end(n), had + n);
                for (int k = 0; k < n; k++) {
                    Check.same("byte", c.x.letter(had + k), k + 1);
                }
                Check.same("no more", c.x.letter(had + n), -1);
                had += n;
            }
        });
        end.says("NONE, and nothing comes, if n is not 0 .. 20, or it would have more than 4000.", c -> {
            int[] none = {-1, 21, Integer.MIN_VALUE, Integer.MAX_VALUE};
            for (int n : none) {
                Check.same("end(" + n + ")", c.x.end(n), -1);
                Check.same("nothing came", c.x.about(0), 0);
            }
            for (int k = 0; k < 199; k++) {
                c.x.end(20);
            }
            Check.same("3980 and 21", c.x.end(21), -1);
            Check.same("3999", c.x.end(19), 3999);
            Check.same("3999 and 2", c.x.end(2), -1);
            Check.same("3999 and 20", c.x.end(20), -1);
            Check.same("nothing came", c.x.about(0), 3999);
            Check.same("3999 and 1", c.x.end(1), 4000);
            Check.same("4000 and 1", c.x.end(1), -1);
            Check.same("4000 and none", c.x.end(0), 4000);
            Check.same("4000", c.x.about(0), 4000);
        });
    }

    private static void wipeFlipCut() {
        Document.promise(4).says("The tape is empty.", c -> {
            c.tape(1, 2, 3);
            c.x.wipe();
            Check.same("no bytes", c.x.about(0), 0);
            Check.same("no byte 0", c.x.letter(0), -1);
            c.x.wipe();
            Check.same("an empty one too", c.x.about(0), 0);
            c.x.feed(-1, 0, 0, 0, 0);
            c.x.wipe();
            c.x.end(1);
            Check.same("what is ready stays", c.x.letter(0), 255);
        });
        Document.promise(5).says("A bit (0 .. 7) of byte i of the tape is turned: whether there are such.", c -> {
            c.tape(0, 255);
            for (int bit = 0; bit < 8; bit++) {
                Check.same("on", c.x.flip(0, bit), true);
                Check.same("it is on", c.x.letter(0), 1 << bit);
                Check.same("off", c.x.flip(0, bit), true);
                Check.same("it is off", c.x.letter(0), 0);
                Check.same("off", c.x.flip(1, bit), true);
                Check.same("it is off", c.x.letter(1), 255 - (1 << bit));
                c.x.flip(1, bit);
            }
            int[][] none = {{0, -1}, {0, 8}, {-1, 0}, {2, 0}, {0, 31}, {0, 32}, {4000, 0}, {Integer.MIN_VALUE, 0},
                {Integer.MAX_VALUE, 7}};
            for (int[] n : none) {
                Check.same("flip " + n[0] + ", " + n[1], c.x.flip(n[0], n[1]), false);
            }
            Check.same("nothing was turned", c.x.letter(0) * 1000 + c.x.letter(1), 255);
            c.x.wipe();
            Check.same("an empty tape has none", c.x.flip(0, 0), false);
        });
        Document.promise(6).says("The tape has its first n bytes alone: whether n is 0 .. as many as it has.", c -> {
            c.tape(5, 6, 7);
            Check.same("too many", c.x.cut(4), false);
            Check.same("too few", c.x.cut(-1), false);
            Check.same("far too many", c.x.cut(Integer.MAX_VALUE), false);
            Check.same("far too few", c.x.cut(Integer.MIN_VALUE), false);
            Check.same("all stay", c.x.about(0), 3);
            Check.same("as many as it has", c.x.cut(3), true);
            Check.same("all stay", c.x.about(0), 3);
            Check.same("two", c.x.cut(2), true);
            Check.same("the second", c.x.letter(1), 6);
            Check.same("no third", c.x.letter(2), -1);
            Check.same("it is gone", c.x.cut(3), false);
            c.add(9);
            Check.same("what comes is behind", c.x.letter(2), 9);
            Check.same("none", c.x.cut(0), true);
            Check.same("empty", c.x.about(0), 0);
            Check.same("none of none", c.x.cut(0), true);
            Check.same("one of none", c.x.cut(1), false);
        });
        Document.promise(47).says("Byte i of the tape; NONE if there is none.", c -> {
            Check.same("none of an empty one", c.x.letter(0), -1);
            c.tape(0, 128, 255);
            Check.same("0", c.x.letter(0), 0);
            Check.same("128", c.x.letter(1), 128);
            Check.same("255", c.x.letter(2), 255);
            Check.same("too far", c.x.letter(3), -1);
            Check.same("too near", c.x.letter(-1), -1);
            Check.same("far too far", c.x.letter(Integer.MAX_VALUE), -1);
            Check.same("far too near", c.x.letter(Integer.MIN_VALUE), -1);
        });
    }
}
