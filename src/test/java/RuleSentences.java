/** Rules, word for word: promises 42 to 44. */
final class RuleSentences {
    private static final int LEAST = Integer.MIN_VALUE;
    private static final int MOST = Integer.MAX_VALUE;

    static void run() {
        texts();
        parts();
        relations();
        faults();
        working();
        promise42();
        promises43And44();
    }

    // Things: 0: A -> 2, 3; 1: C, an heir of B, -> 1, 3; 2: B -> 4; 3: B -> null, 0; 4: an array -> 4, null; an A and a B
    // have numbers too, which are no links
    private static HeapWorks heap(Check c) {
        HeapWorks x = c.x;
        c.type("A");
        c.link(0, "a", -1);
        c.link(0, "b", -1);
        c.field(0, "n", 3);
        c.type("B");
        c.link(1, "a", -1);
        c.link(1, "b", -1);
        c.field(1, "n", 4);
        c.type("C", 1, 0);
        int[] types = {0, 2, 1, 1, 29};
        for (int type : types) {
            x.make(type, 2);
        }
        int[][] links = {{0, 0, 2}, {0, 1, 3}, {1, 0, 1}, {1, 1, 3}, {2, 0, 4}, {3, 1, 0}, {4, 0, 4}};
        for (int[] l : links) {
            x.set(l[0], l[1], l[2]);
        }
        long[] numbers = {4, 0, Long.MIN_VALUE, 1};
        for (int o = 0; o < 4; o++) {
            x.set(o, 2, numbers[o]);
        }
        x.root(0, true);
        x.root(1, true);
        Check.same("things", x.take(0), 5);
        return x;
    }

    private static void facts(Check c, String text, int due) {
        c.text(text);
        Check.same(text, c.x.rules(0), due);
        Check.same(text + " fault", c.x.fault(0), 0);
    }

    // The facts of relation 0, which has one V, are of these things.
    private static void ones(Check c, String text, int... due) {
        facts(c, text, due.length);
        for (int t = 0; t < 5; t++) {
            boolean so = false;
            for (int k : due) {
                so |= k == t;
            }
            Check.same(text + " has " + t, c.x.isFact(0, t, -1), so);
        }
    }

    private static void fault(Check c, String text, int code, int place) {
        c.text(text);
        Check.refused(text, Check.ARGUMENT, () -> c.x.rules(0));
        Check.same(text + " fault", c.x.fault(0), code);
        Check.same(text + " place", c.x.fault(1), place);
        Check.same(text + " relations", c.x.about(12), 0);
    }

    private static void texts() {
        Document d = Document.terms();
        d.says("RULES, at most 12, are texts: any number of: HEAD if BODY ;", c -> {
            heap(c);
            facts(c, "", 0);
            Check.same("no relation", c.x.about(12), 0);
            facts(c, " \t\n\r", 0);
            String rule = "p(x) if A : x;";
            for (int k = 1; k <= 12; k++) {
                facts(c, Check.repeat(rule, k), 1);
            }
            fault(c, Check.repeat(rule, 13), 4, 12 * rule.length());
            fault(c, "p(x) A : x;", 1, 5);
            fault(c, "p(x) if ;", 1, 8);
            fault(c, "p(x) if A : x", 1, 13);
            fault(c, "p(x);", 1, 4);
            fault(c, ";", 1, 0);
            fault(c, "if A : x;", 1, 0);
        });
        d.says("where HEAD: NAME ( V ) or NAME ( V , V );", c -> {
            heap(c);
            facts(c, "p(x) if B : x;", 3);
            facts(c, "p(x,y) if B : x, A : y;", 3);
            facts(c, "p(x,x) if B : x;", 3);
            fault(c, "p() if B : x;", 1, 2);
            fault(c, "p if B : x;", 1, 2);
            fault(c, "p(x,) if B : x;", 1, 4);
            fault(c, "p(x,y,z) if B : x;", 1, 5);
            fault(c, "p(x y) if B : x;", 1, 4);
            fault(c, "p(7) if B : x;", 1, 2);
            fault(c, "7(x) if B : x;", 1, 0);
            fault(c, "A : x if B : x;", 1, 2);
            fault(c, "x = x if B : x;", 1, 2);
            fault(c, "link(x,y) if B : x;", 1, 0);
        });
    }

    private static void parts() {
        Document d = Document.terms();
        d.says("BODY: 1 .. 4 of these, or of link ( V , V ) (a slot of the first links to the second), NAME : V (V's class IS one "
            + "of that name), V = V, V != V, with , between;", c -> {
            heap(c);
            facts(c, "p(x,y) if link(x,y);", 7);
            Check.same("0 -> 2", c.x.isFact(0, 0, 2), true);
            Check.same("not back", c.x.isFact(0, 2, 0), false);
            Check.same("an array", c.x.isFact(0, 4, 4), true);
            ones(c, "p(x) if link(x,x);", 1, 4);
            ones(c, "p(x) if link(y,x), link(x,y);", 0, 1, 3, 4);
            ones(c, "p(x) if B : x;", 1, 2, 3);
            ones(c, "p(x) if C : x;", 1);
            ones(c, "p(x) if Z : x;");
            ones(c, "p(x) if link(x,y), B : x, x = y;", 1);
            ones(c, "p(x) if link(x,y), B : x, x != y;", 1, 2, 3);
            facts(c, "p(x) if q(x,y), A : y; q(x,y) if link(x,y);", 1 + 7);
            Check.same("3 -> 0", c.x.isFact(0, 3, 0), true);
            ones(c, "p(x) if link(x,y), link(y,z), z != x, B : y;", 0, 1);
            fault(c, "p(x) if link(x,y), link(y,z), z != x, B : y, B : y;", 4, 45);
            fault(c, "p(x) if link(x,x) link(x,x);", 1, 18);
            fault(c, "p(x) if link(x,x),;", 1, 18);
            fault(c, "p(x) if link(x);", 1, 14);
            fault(c, "p(x) if link(x,y,z);", 1, 16);
            fault(c, "p(x) if link;", 1, 12);
            fault(c, "p(x) if A : ;", 1, 12);
            fault(c, "p(x) if A x;", 1, 10);
            fault(c, "p(x) if x < x;", 1, 10);
            fault(c, "p(x) if x = ;", 1, 12);
            fault(c, "p(x) if x = 7;", 1, 12);
            fault(c, "p(x) if (A : x);", 1, 8);
            fault(c, "p(x) if not A : x;", 1, 8);
        });
        d.says("V: a NAME; at most 3 in a rule.", c -> {
            heap(c);
            ones(c, "p(abcdefghi0) if B : abcdefghi0;", 1, 2, 3);
            fault(c, "p(abcdefghij0) if B : x;", 2, 2);
            fault(c, "p(it) if B : x;", 1, 2);
            facts(c, "p(x) if link(x,y), link(y,z);", 5);
            fault(c, "p(x) if link(x,y), link(y,z), link(z,w);", 4, 37);
            fault(c, "p(x,y) if link(x,z), A : w;", 4, 25);
            facts(c, "p(x) if link(x,y), link(y,z); p(u) if link(u,v), link(v,w);", 5);
            facts(c, "p(X) if link(X,x), B : X;", 3);
            fault(c, "p(X) if link(X,x), link(y,Y);", 4, 26);
        });
        d.says("Behind each rule ; . if and link are no names here.", c -> {
            heap(c);
            fault(c, "p(x) if A : x p(x) if B : x;", 1, 14);
            fault(c, "p(x) if A : x.", 1, 13);
            facts(c, "p(x) if A : x ; p(x) if B : x ;", 4);
            fault(c, "p(x) if A : x;;", 1, 14);
            String[] none = {"if", "link"};
            for (String name : none) {
                fault(c, name + "(x) if A : x;", 1, 0);
                fault(c, "p(" + name + ") if A : x;", 1, 2);
                fault(c, "p(x," + name + ") if A : x;", 1, 4);
                fault(c, "p(x) if A : " + name + ";", 1, 12);
                fault(c, "p(x) if x = " + name + ";", 1, 12);
                fault(c, "p(x) if q(" + name + ");", 1, 10);
            }
            fault(c, "p(x) if if : x;", 1, 8);
            fault(c, "p(x) if if(x);", 1, 8);
            fault(c, "p(x) if link : x;", 1, 13);
            fault(c, "p(x) if link = x;", 1, 13);
            facts(c, "If(x) if Link(x); Link(ifx) if A : ifx;", 2);
        });
    }

    private static void relations() {
        Document d = Document.terms();
        d.says("A NAME of a relation has one V or two everywhere (at most 6 relations; those that no HEAD has are empty);", c -> {
            heap(c);
            fault(c, "p(x) if B : x; p(x,y) if link(x,y);", 3, 15);
            fault(c, "p(x,y) if link(x,y); p(x) if B : x;", 3, 21);
            fault(c, "p(x) if B : x, q(x), q(x,x);", 3, 21);
            String six = "a(x) if b(x), d(x,x); e(x) if f(x), g(x);";
            facts(c, six, 0);
            Check.same("6", c.x.about(12), 6);
            facts(c, six + "a(x) if B : x, link(h,h);", 3);
            fault(c, six + "h(x) if B : x;", 4, six.length());
            fault(c, six + "a(x) if h(x);", 4, six.length() + 8);
            facts(c, "p(x) if B : x, none(x); q(x) if B : x;", 3);
            int[] due = {0, 0, 3};
            for (int k = 0; k < 3; k++) {
                Check.same("relation " + k, c.x.facts(k), due[k]);
            }
        });
        d.says("each V of a HEAD must stand in the BODY in link, a relation or NAME : V.", c -> {
            heap(c);
            facts(c, "p(x) if link(x,y);", 5);
            facts(c, "p(x) if link(y,x);", 5);
            facts(c, "p(x) if q(x);", 0);
            facts(c, "p(x) if q(y,x);", 0);
            facts(c, "p(x) if p(x);", 0);
            facts(c, "p(x) if A : x;", 1);
            fault(c, "p(x) if A : y;", 3, 13);
            fault(c, "p(x) if x = x;", 3, 13);
            fault(c, "p(x) if A : y, x = y;", 3, 20);
            fault(c, "p(x) if A : y, y != x;", 3, 21);
            fault(c, "p(x,y) if A : x;", 3, 15);
            fault(c, "p(x,y) if A : y;", 3, 15);
            fault(c, "p(A) if A : x;", 3, 13);
            // what the BODY alone has may stand in = and != alone, and is any thing then
            ones(c, "p(x) if A : x, x != y;", 0);
            ones(c, "p(x) if A : x, y = y;", 0);
            ones(c, "p(x) if A : x, y != y;");
        });
    }

    private static void faults() {
        Document d = Document.terms();
        d.says("FAULTS likewise 1 to 4 (3: a relation with another number of V's than where it came first, told as soon as , or ) "
            + "shows it, at its name;", c -> {
            heap(c);
            fault(c, "p(x", 1, 3);
            fault(c, "p(x) if A : x", 1, 13);
            fault(c, "p(x) if A : x;  p ", 1, 18);
            fault(c, "@", 2, 0);
            fault(c, "p(x) if A ! x;", 2, 10);
            fault(c, "p(x) if abcdefghijk : x;", 2, 8);
            fault(c, "p(x) if A : 1234567890123456789;", 2, 12);
            fault(c, "p(x) if A : 123456789012345678;", 1, 12);
            fault(c, "p(x) if p(x,x);", 3, 8);
            fault(c, "p(x,x) if p(x);", 3, 10);
            // as soon as , or ) shows it: not ahead of it, but ahead of what stands behind it
            fault(c, "p(x) if A : x; p(7,y) if A : x;", 1, 17);
            fault(c, "p(x) if A : x; p(x:y) if A : x;", 1, 18);
            fault(c, "p(x) if A : x; p(x,7) if A : x;", 3, 15);
            fault(c, "p(x,y) if link(x,y); p(x)7", 3, 21);
            fault(c, "p(x) if A : x; p(@,y) if A : x;", 2, 17);
            fault(c, "p(x) if link(x,y), link(y,z), p(w,x);", 4, 32);
            fault(c, "p(x) if link(x,y), link(y,z), p(x,w);", 3, 30);
            fault(c, "p(x) if A : y, p(x,x);", 3, 15);
        });
        d.says("a V of the HEAD that is not so, at the ; ;", c -> {
            heap(c);
            fault(c, "p(x) if A : y ;", 3, 14);
            fault(c, "p(x) if A : y", 1, 13);
            fault(c, "p(x) if A : y, ;", 1, 15);
            fault(c, "p(x) if A : x; q(x,y) if A : x;", 3, 30);
        });
        d.says("4: a 13th rule, 7th relation, 5th of a body, 4th V of a rule, at its first word).", c -> {
            heap(c);
            String rule = "p(x) if A : x;";
            String twelve = Check.repeat(rule, 12);
            fault(c, twelve + "p", 4, twelve.length());
            fault(c, twelve + " q(x) if A : x;", 4, twelve.length() + 1);
            facts(c, twelve + " ", 1);
            String six = "a(x) if b(x), d(x), e(x), f(x); g(x) if A : x;";
            facts(c, six, 1);
            fault(c, six + "h", 4, six.length());
            fault(c, six + "a(x) if A : x, h(", 4, six.length() + 15);
            fault(c, six + "a(x) if A : x, h", 1, six.length() + 16);
            String four = "p(x) if A : x, x = x, x = x, x = x";
            facts(c, four + ";", 1);
            String[] fifth = {"x = x;", "A : x;", "link(x,x);", "q(x);", "zz", "link"};
            for (String part : fifth) {
                fault(c, four + ", " + part, 4, four.length() + 2);
            }
            fault(c, "p(x) if link(x,y), link(y,z), link(x,w);", 4, 37);
            fault(c, "p(x) if link(x,y), link(y,z), link(w,x);", 4, 35);
            fault(c, "p(x) if link(x,y), link(y,z), w = x;", 4, 30);
            fault(c, "p(x) if link(x,y), link(y,z), x != w;", 4, 35);
            fault(c, "p(x) if link(x,y), link(y,z), A : w;", 4, 34);
            fault(c, "p(x) if link(x,y), link(y,z), q(w);", 4, 32);
            // of several at one word: 2, 1, then 4
            fault(c, twelve + "@", 2, twelve.length());
            fault(c, twelve + ";", 1, twelve.length());
            fault(c, twelve + "link", 1, twelve.length());
            fault(c, four + ", @", 2, four.length() + 2);
            fault(c, four + ", ;", 1, four.length() + 2);
            fault(c, four + ", if", 1, four.length() + 2);
        });
    }

    private static HeapWorks chain(Check c, int things) {
        HeapWorks x = c.x;
        c.type("N");
        c.link(0, "a", -1);
        for (int k = 0; k < things; k++) {
            x.make(0, 0);
            if (k > 0) {
                x.set(k - 1, 0, k);
            }
        }
        x.root(0, true);
        Check.same("things", x.take(0), things);
        return x;
    }

    private static void working() {
        Document.terms().says("They are worked out over a picture of at most 40 things: the least relations for which all rules "
            + "hold.", c -> {
            chain(c, 40);
            facts(c, "r(x,y) if link(x,y); r(x,z) if r(x,y), link(y,z);", 780);
            Check.same("the farthest", c.x.isFact(0, 0, 39), true);
            Check.same("not back", c.x.isFact(0, 39, 0), false);
            facts(c, "r(x,z) if r(x,y), link(y,z); r(x,y) if link(x,y);", 780);
            facts(c, "r(x,y) if N : x, N : y;", 1600);
            facts(c, "r(x,y) if r(y,x);", 0);
            facts(c, "p(x) if q(x); q(x) if p(x);", 0);
            facts(c, "p(x) if q(x); q(x) if p(x); q(x) if link(x,y), link(y,z);", 76);
            facts(c, "p(x) if link(x,y), q(y); q(x) if N : x, link(x,y);", 38 + 39);
            c.x.set(39, 0, 0);
            c.x.take(0);
            facts(c, "r(x,y) if link(x,y); r(x,z) if r(x,y), r(y,z);", 1600);
            Check more = new Check();
            chain(more, 41);
            more.text("r(x,y) if link(x,y);");
            Check.refused("41 things", Check.STATE, () -> more.x.rules(0));
            more.x.set(39, 0, -1);
            more.x.take(0);
            facts(more, "r(x,y) if link(x,y);", 39);
        });
    }

    private static void promise42() {
        Document d = Document.promise(42);
        d.says("The tape (it stays) are RULES, worked out over picture p: how many facts all relations have.", c -> {
            HeapWorks x = heap(c);
            x.root(1, false);
            x.take(2);
            String text = "p(x) if B : x; q(x,y) if p(x), p(y); none(x) if Z : x;";
            facts(c, text, 3 + 9);
            Check.same("the tape stays", x.about(0), text.length());
            Check.same("its letter", x.letter(0), 'p');
            Check.same("another picture", x.rules(2), 2 + 4);
            Check.same("one without things", x.rules(1), 0);
            Check.same("relations all the same", x.about(12), 3);
        });
        d.says("IndexOutOfBoundsException: p.", c -> {
            heap(c);
            facts(c, "p(x) if B : x;", 3);
            c.text("(");
            int[] none = {-1, 4, LEAST, MOST};
            for (int p : none) {
                Check.refused("rules " + p, Check.INDEX, () -> c.x.rules(p));
            }
            Check.same("the facts stay", c.x.facts(0), 3);
            Check.same("no fault", c.x.fault(0), 0);
        });
        d.says("IllegalStateException: the picture has more than 40 things.", c -> {
            chain(c, 41);
            c.text("p(x) if N : x;");
            Check.same("another picture", c.x.rules(1), 0);
            c.x.set(39, 0, -1);
            c.x.take(1);
            Check.same("40", c.x.rules(1), 40);
            Check.refused("41", Check.STATE, () -> c.x.rules(0));
            Check.same("the facts stay", c.x.facts(0), 40);
            c.text("(");
            Check.refused("ahead of a fault", Check.STATE, () -> c.x.rules(0));
            Check.same("no fault", c.x.fault(0), 0);
            Check.same("the relation stays", c.x.about(12), 1);
        });
        d.says("IllegalArgumentException: a FAULT (there are no relations then).", c -> {
            heap(c);
            String[] wrong = {"p", "@", "p(x) if A : y;", "p(x) if q(x), r(x), s(x), t(x), u(x);"};
            for (int k = 0; k < wrong.length; k++) {
                facts(c, "p(x) if B : x;", 3);
                c.text(wrong[k]);
                Check.refused(wrong[k], Check.ARGUMENT, () -> c.x.rules(0));
                Check.same("fault", c.x.fault(0), k + 1);
                Check.same("no relations", c.x.about(12), 0);
                Check.same("no facts", c.x.facts(0), -1);
                Check.refused("no relation", Check.ELEMENT, () -> c.x.isFact(0, 1, 0));
            }
        });
    }

    private static void promises43And44() {
        Document.promise(43).says("How many facts relation k has, in the order of their first coming in the rules; NONE if there "
            + "is none such.", c -> {
            heap(c);
            Check.same("no rules() yet", c.x.facts(0), -1);
            facts(c, "p(x) if B : x, s(x); q(x,y) if t(x,y), link(x,y); s(x) if C : x; t(x,y) if link(y,x);", 1 + 1 + 4 + 7);
            // p, s, q, t; q: 1 -> 1, 4 -> 4, 0 -> 3, 3 -> 0
            int[] due = {1, 1, 4, 7};
            for (int k = 0; k < 4; k++) {
                Check.same("relation " + k, c.x.facts(k), due[k]);
            }
            int[] none = {-1, 4, 6, LEAST, MOST};
            for (int k : none) {
                Check.same("relation " + k, c.x.facts(k), -1);
            }
            c.x.root(0, false);
            c.x.take(0);
            Check.same("as they were worked out", c.x.facts(3), 7);
            facts(c, "", 0);
            Check.same("none", c.x.facts(0), -1);
        });
        Document d = Document.promise(44);
        d.says("Whether relation k has the fact (a), or (a, b) (b counts for such alone).", c -> {
            heap(c);
            facts(c, "p(x) if B : x; q(x,y) if link(x,y);", 3 + 7);
            int[] any = {0, 1, -1, 5, 64, LEAST, MOST};
            for (int b : any) {
                Check.same("(1)", c.x.isFact(0, 1, b), true);
                Check.same("(0)", c.x.isFact(0, 0, b), false);
            }
            Check.same("(0, 2)", c.x.isFact(1, 0, 2), true);
            Check.same("(2, 0)", c.x.isFact(1, 2, 0), false);
            int[] none = {-1, 5, 40, 64, 66, LEAST, MOST};
            for (int n : none) {
                Check.same("no thing " + n, c.x.isFact(0, n, 1), false);
                Check.same("no thing " + n, c.x.isFact(1, n, 2), false);
                Check.same("no thing " + n, c.x.isFact(1, 0, n), false);
            }
        });
        d.says("NoSuchElementException: no such relation.", c -> {
            heap(c);
            Check.refused("no rules() yet", Check.ELEMENT, () -> c.x.isFact(0, 0, 0));
            facts(c, "p(x) if B : x;", 3);
            int[] none = {-1, 1, 6, LEAST, MOST};
            for (int k : none) {
                Check.refused("relation " + k, Check.ELEMENT, () -> c.x.isFact(k, 1, 1));
            }
        });
    }
}
