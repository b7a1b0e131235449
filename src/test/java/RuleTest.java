/** Promises 42 to 45: rules, their facts and faults. */
public final class RuleTest {
    public static void main(String[] args) {
        reaching();
        parts();
        unbound();
        relations();
        limits();
        misplaced();
        arities();
        tooMany();
        atOneWord();
        states();
        Check.done("RuleTest");
    }

    // A(0) -> B(1) -> B(2) -> array(3) -> A(0); 4: C, an heir of B, links to itself and 2
    private static Check heap() {
        Check c = new Check();
        HeapWorks x = c.x;
        c.type("A");
        c.link(0, "a", -1);
        c.link(0, "b", -1);
        c.type("B");
        c.link(1, "a", -1);
        c.link(1, "b", -1);
        c.type("C", 1, 0);
        c.type("A", 1, 1);
        x.make(0, 0);
        x.make(1, 0);
        x.make(1, 0);
        x.make(29, 2);
        x.make(2, 0);
        x.set(0, 0, 1);
        x.set(1, 0, 2);
        x.set(2, 1, 3);
        x.set(3, 1, 0);
        x.set(4, 0, 4);
        x.set(4, 1, 2);
        x.root(0, true);
        x.take(1);
        x.root(4, true);
        x.take(0);
        return c;
    }

    private static int rules(Check c, String text) {
        c.text(text);
        try {
            int all = c.x.rules(0);
            Check.same(text + " fault", c.x.fault(0), 0);
            Check.same(text + " place", c.x.fault(1), -1);
            Check.same(text + " tape", c.x.about(0), text.length());
            return all;
        } catch (RuntimeException e) {
            System.out.println(text + ": " + e + ", fault " + c.x.fault(0) + " at " + c.x.fault(1));
            return -100;
        }
    }

    private static void fault(Check c, String text, int code, int place) {
        c.text(text);
        Check.refused(text, Check.ARGUMENT, () -> c.x.rules(0));
        Check.same(text + " fault", c.x.fault(0), code);
        Check.same(text + " place", c.x.fault(1), place);
        Check.same(text + " relations", c.x.about(12), 0);
        Check.same(text + " facts", c.x.facts(0), -1);
    }

    // Things: 0 = A, 1 = C, 2 = B (1), 3 = B (2), 4 = array
    private static void reaching() {
        Check c = heap();
        HeapWorks x = c.x;
        Check.same("all", rules(c, "r(x,y) if link(x,y); r(x,z) if r(x,y), r(y,z);"), 4 * 4 + 5);
        Check.same("facts", x.facts(0), 21);
        for (int a = 0; a < 5; a++) {
            for (int b = 0; b < 5; b++) {
                Check.same("fact " + a + b, x.isFact(0, a, b), a == 1 || b != 1);
            }
        }
        Check.same("no thing", x.isFact(0, 5, 0), false);
        Check.same("no thing", x.isFact(0, 0, -1), false);
        Check.same("no thing", x.isFact(0, 1 << 30, 64), false);
        Check.refused("no relation", Check.ELEMENT, () -> x.isFact(1, 0, 0));
        Check.refused("no relation", Check.ELEMENT, () -> x.isFact(-1, 0, 0));
        Check.same("another picture", x.rules(1), 16);
        Check.same("turned", rules(c, "p(y,x) if link(x,y);"), 6);
        Check.same("0 -> 2", x.isFact(0, 2, 0), true);
        Check.same("not so", x.isFact(0, 0, 2), false);
    }

    private static void parts() {
        Check c = heap();
        HeapWorks x = c.x;
        Check.same("class", rules(c, "p(x) if B : x;"), 3);
        Check.same("b does not count", x.isFact(0, 1, 99), true);
        Check.same("not it", x.isFact(0, 0, 0), false);
        Check.same("arrays never", x.isFact(0, 4, 4), false);
        Check.same("no thing", x.isFact(0, 7, 0), false);
        Check.same("a class that is none", rules(c, "p(x) if Zz : x;"), 0);
        Check.same("itself", rules(c, "p(x) if link(x,x);"), 1);
        Check.same("itself", x.isFact(0, 1, 0), true);
        Check.same("same", rules(c, "p(x,y) if B : x, B : y, x = y;"), 3);
        Check.same("other", rules(c, "p(x,y) if B : x, B : y, x != y;"), 6);
        Check.same("never", rules(c, "p(x) if B : x, x != x;"), 0);
        Check.same("always", rules(c, "p(x) if B : x, x = x;"), 3);
        Check.same("twice", rules(c, "p(x,x) if B : x;"), 3);
        Check.same("two", rules(c, "p(x) if B : x; q(x,y) if p(x), p(y), link(x,y);"), 3 + 3);
        Check.same("its own way round", rules(c, "s(x,y) if link(x,y); s(x,y) if s(y,x);"), 11);
    }

    // What stands in = and != alone may be any thing.
    private static void unbound() {
        Check c = heap();
        Check.same("some other", rules(c, "p(x) if A : x, x != y;"), 1);
        Check.same("some same", rules(c, "p(x) if link(x,x), y = z;"), 1);
        Check.same("no other", rules(c, "p(x) if A : x, y != y;"), 0);
        c.x.root(4, false);
        c.x.set(0, 0, -1);
        c.x.take(0);
        Check.same("alone", rules(c, "p(x) if A : x, x != y;"), 0);
        Check.same("alone", rules(c, "p(x) if A : x, x = y;"), 1);
        c.x.root(0, false);
        c.x.take(0);
        Check.same("nothing at all", rules(c, "p(x) if A : x; q(x,y) if p(x), p(y);"), 0);
        Check.same("facts", c.x.facts(1), 0);
    }

    // Promise 43
    private static void relations() {
        Check c = heap();
        HeapWorks x = c.x;
        Check.same("no rules", rules(c, ""), 0);
        Check.same("none", x.about(12), 0);
        Check.same("no rules", rules(c, " \n"), 0);
        Check.same("none", x.facts(0), -1);
        Check.same("in order", rules(c, "b(x) if q(x,y), B : x; a(x) if A : x; q(x,x) if a(x), p(x);"), 1);
        Check.same("four", x.about(12), 4);
        int[] due = {0, 0, 1, 0};
        for (int k = 0; k < 4; k++) {
            Check.same("relation " + k, x.facts(k), due[k]);
        }
        Check.same("no 5th", x.facts(4), -1);
        Check.same("none", x.facts(-1), -1);
        Check.same("a V may be called like a relation", rules(c, "r(r) if B : r; B(B) if B : B, r(B);"), 6);
        Check.same("blanks", rules(c, "p\t(x)\nif\rB:x ;"), 3);
        x.take(2);
        c.text("");
        x.take(0);
        Check.same("facts stay", x.facts(0), 3);
        Check.refused("p", Check.INDEX, () -> x.rules(4));
        Check.refused("p", Check.INDEX, () -> x.rules(-1));
        Check.same("facts stay", x.facts(0), 3);
    }

    private static void limits() {
        Check c = new Check();
        HeapWorks x = c.x;
        c.type("N");
        c.link(0, "a", -1);
        for (int k = 0; k < 41; k++) {
            x.make(0, 0);
        }
        for (int k = 0; k < 39; k++) {
            x.set(k, 0, k + 1);
        }
        x.root(0, true);
        x.take(0);
        Check.same("40 things", rules(c, "r(x,y) if link(x,y); r(x,z) if r(x,y), link(y,z);"), 780);
        Check.same("the farthest", x.isFact(0, 0, 39), true);
        Check.same("the other way", rules(c, "r(x,y) if link(x,y); r(x,z) if link(x,y), r(y,z);"), 780);
        Check.same("all pairs", rules(c, "r(x,y) if N : x, N : y;"), 1600);
        x.set(39, 0, 40);
        x.take(0);
        Check.refused("41 things", Check.STATE, () -> x.rules(0));
        Check.same("facts stay", x.facts(0), 1600);
        Check.same("no fault", x.fault(0), 0);
        c.text("(");
        Check.refused("41 things first", Check.STATE, () -> x.rules(0));
        Check.same("no fault", x.fault(0), 0);
    }

    private static void misplaced() {
        Check c = heap();
        fault(c, "p", 1, 1);
        fault(c, "p(", 1, 2);
        fault(c, "p()", 1, 2);
        fault(c, "p(x", 1, 3);
        fault(c, "p(x,", 1, 4);
        fault(c, "p(x,y", 1, 5);
        fault(c, "p(x,y,z) if A : x;", 1, 5);
        fault(c, "p(x)", 1, 4);
        fault(c, "p(x) if", 1, 7);
        fault(c, "p(x) if;", 1, 7);
        fault(c, "p(x) if A", 1, 9);
        fault(c, "p(x) if A :", 1, 11);
        fault(c, "p(x) if A : x", 1, 13);
        fault(c, "p(x) if A : x,", 1, 14);
        fault(c, "p(x) if A : x,;", 1, 14);
        fault(c, "p(x) if A : x; p", 1, 16);
        fault(c, "p(x);", 1, 4);
        fault(c, "p(x) A : x;", 1, 5);
        fault(c, "if(x) if A : x;", 1, 0);
        fault(c, "link(x,y) if A : x;", 1, 0);
        fault(c, "size(x) if A : x;", 1, 0);
        fault(c, "7(x) if A : x;", 1, 0);
        fault(c, ";", 1, 0);
        fault(c, "p(if) if A : x;", 1, 2);
        fault(c, "p(link) if A : x;", 1, 2);
        fault(c, "p(it) if A : x;", 1, 2);
        fault(c, "p(x) if if : x;", 1, 8);
        fault(c, "p(x) if link : x;", 1, 13);
        fault(c, "p(x) if link = x;", 1, 13);
        fault(c, "p(x) if link(x);", 1, 14);
        fault(c, "p(x) if link(x,y,x);", 1, 16);
        fault(c, "p(x) if x < y;", 1, 10);
        fault(c, "p(x) if x = 7;", 1, 12);
        fault(c, "p(x) if A : x A : x;", 1, 14);
        fault(c, "p(x) if A . x;", 1, 10);
        fault(c, "p(x) if A : link;", 1, 12);
        fault(c, "p(x) if where : x;", 1, 8);
        fault(c, "@", 2, 0);
        fault(c, "p(x) if A ! x;", 2, 10);
        fault(c, "abcdefghijk(x) if A : x;", 2, 0);
        fault(c, "p(x) if abcdefghijk : x;", 2, 8);
        fault(c, "p(x) if A : x; $", 2, 15);
        fault(c, "p(x) if A : x, \u00e4", 2, 15);
    }

    private static void arities() {
        Check c = heap();
        fault(c, "p(x) if A : x; p(x,y) if link(x,y);", 3, 15);
        fault(c, "p(x,y) if link(x,y); p(x) if A : x;", 3, 21);
        fault(c, "p(x) if p(x,x);", 3, 8);
        fault(c, "p(x,x) if p(x);", 3, 10);
        fault(c, "p(x) if A : x, q(x), q(x,x);", 3, 21);
        // told as soon as , or ) shows it, so what stands ahead of that is told first
        fault(c, "p(x) if A : x; p(7,y) if link(x,y);", 1, 17);
        fault(c, "p(x) if A : x; p(x,7) if link(x,y);", 3, 15);
        fault(c, "p(x) if A : x; p(x:7) if link(x,y);", 1, 18);
        fault(c, "p(x) if link(x,y), link(y,z), p(u,x);", 4, 32);
        fault(c, "p(x) if link(x,y), link(y,z), p(x,u);", 3, 30);
        // a V of the head
        fault(c, "p(x) if A : y;", 3, 13);
        fault(c, "p(x,y) if A : y;", 3, 15);
        fault(c, "p(x,y) if A : x, y = x;", 3, 22);
        fault(c, "p(x) if x != y ;", 3, 15);
        fault(c, "p(x) if A : y", 1, 13);
        Check.same("in a relation that is empty", rules(c, "p(x) if q(x);"), 0);
        Check.same("in link", rules(c, "p(x) if link(y,x);"), 5);
    }

    private static void tooMany() {
        Check c = heap();
        String rule = "p(x) if A : x;";
        Check.same("12 rules", rules(c, Check.repeat(rule, 12)), 1);
        fault(c, Check.repeat(rule, 12) + "p", 4, 12 * rule.length());
        fault(c, Check.repeat(rule, 12) + "(", 1, 12 * rule.length());
        fault(c, Check.repeat(rule, 12) + "@", 2, 12 * rule.length());
        fault(c, Check.repeat(rule, 12) + "if", 1, 12 * rule.length());
        Check.same("nothing behind", rules(c, Check.repeat(rule, 12) + " \n"), 1);
        String four = "p(x) if A : x, x = x, x = y, x = x";
        Check.same("4 parts", rules(c, four + ";"), 1);
        fault(c, four + ", x = x;", 4, four.length() + 2);
        fault(c, four + ", link", 4, four.length() + 2);
        fault(c, four + ", zz", 4, four.length() + 2);
        fault(c, four + ", 7", 1, four.length() + 2);
        fault(c, four + ", if", 1, four.length() + 2);
        fault(c, "p(x) if link(x,y), link(y,z), link(z,u);", 4, 37);
        fault(c, "p(x) if link(x,y), link(y,z), u = x;", 4, 30);
        fault(c, "p(x) if link(x,y), link(y,z), x = u;", 4, 34);
        fault(c, "p(x) if link(x,y), link(y,z), u < x;", 1, 32);
        fault(c, "p(x) if link(x,y), link(y,z), A : u;", 4, 34);
        Check.same("a class is no V", rules(c, "p(x) if link(x,y), link(y,z), u : x;"), 0);
        String six = "a(x) if b(x), c(x); d(x) if e(x), f(x);";
        Check.same("6 relations", rules(c, six), 0);
        Check.same("6", c.x.about(12), 6);
        fault(c, six + "g(x) if A : x;", 4, six.length());
        fault(c, six + "g", 4, six.length());
        fault(c, six + "a(x) if g(x);", 4, six.length() + 8);
        fault(c, six + "a(x) if g x;", 1, six.length() + 10);
        Check.same("no relation", rules(c, six + "a(x) if A : x, link(x,g), g = g;"), 1);
    }

    private static void atOneWord() {
        Check c = heap();
        // the 7th relation is told at its name, though ( shows it
        fault(c, "a(x) if b(x), c(x); d(x) if e(x), f(x), g(7);", 4, 40);
        fault(c, "a(x) if b(x), c(x); d(x) if e(x), f(x), g 7;", 1, 42);
    }

    // Promise 45: the latest of those that tell a fault
    private static void states() {
        Check c = heap();
        HeapWorks x = c.x;
        fault(c, "p", 1, 1);
        c.text("things");
        x.ask(0);
        Check.same("no fault", x.fault(0), 0);
        Check.same("no place", x.fault(1), -1);
        c.fault("things get it.", 1, 14);
        c.text("true");
        x.promise();
        Check.same("no fault", x.fault(0), 0);
        c.text("HP");
        Check.refused("load", Check.ARGUMENT, () -> x.load(0));
        Check.same("fault", x.fault(0), 1);
        Check.same("place", x.fault(1), 2);
        Check.refused("p tells none", Check.INDEX, () -> x.load(9));
        Check.same("fault", x.fault(0), 1);
        x.bytes(0);
        x.load(1);
        Check.same("no fault", x.fault(0), 0);
        Check.same("another what", x.fault(2), -1);
        Check.same("another what", x.fault(-1), -1);
    }
}
