/** Promises 40, 41 and 45: questions, their values, faults and meter. */
public final class QuestionTest {
    public static void main(String[] args) {
        sets();
        rows();
        numbers();
        truths();
        fields();
        folds();
        scopes();
        misplaced();
        wrongWords();
        unknown();
        tooManyNodes();
        tooDeep();
        meter();
        meterOfSets();
        Check.done("QuestionTest");
    }

    // 0: A(n 1) -> a: 1, b: 2, c: 3; 1: B(n 2) -> a: 0; 2: array of links (1, null); 3: A of another loader, an heir of B
    // (n 4, f 1) -> a: 3, b: 4; 4: LONGs (0, the least, 0)
    static HeapWorks heap(Check c) {
        HeapWorks x = c.x;
        c.type("A");
        c.link(0, "a", -1);
        c.link(0, "b", -1);
        c.link(0, "c", -1);
        c.field(0, "n", 4);
        c.field(0, "f", 0);
        c.field(0, "st", 3, -1, true);
        c.type("B", 0, 0);
        c.field(1, "n", 3);
        c.field(1, "st", 3);
        c.type("A", 1, 1);
        c.field(2, "f", 3, -1, true);
        x.make(0, 0);
        x.make(1, 0);
        x.make(29, 2);
        x.make(2, 0);
        x.make(24, 3);
        int[][] links = {{0, 0, 1}, {0, 1, 2}, {0, 2, 3}, {1, 0, 0}, {2, 0, 1}, {3, 0, 3}, {3, 1, 4}};
        for (int[] l : links) {
            x.set(l[0], l[1], l[2]);
        }
        x.set(0, 3, 1);
        x.set(1, 3, 20);
        x.set(1, 5, 2);
        x.set(3, 3, 40);
        x.set(3, 4, 1);
        x.set(3, 5, 4);
        x.set(3, 6, 9);
        x.set(4, 1, Long.MIN_VALUE);
        x.root(0, true);
        x.take(0);
        return x;
    }

    private static Check heap() {
        Check c = new Check();
        heap(c);
        return c;
    }

    private static void rowThings(Check c, String question, int... due) {
        c.text(question);
        try {
            Check.same(question, c.x.ask(0), due.length);
        } catch (RuntimeException e) {
            Check.same(question + " throws, fault " + c.x.fault(0) + " at " + c.x.fault(1), 1, 0);
            return;
        }
        Check.same("rows", c.x.about(11), due.length);
        for (int k = 0; k < due.length; k++) {
            Check.same(question + " row " + k, c.x.answer(k, 0), due[k]);
        }
        Check.refused("no row", Check.ELEMENT, () -> c.x.answer(due.length, 0));
    }

    private static void sets() {
        Check c = heap();
        rowThings(c, "things", 0, 1, 2, 3, 4);
        rowThings(c, "all A", 0, 1, 3);
        rowThings(c, "all B", 1, 3);
        rowThings(c, "own A", 0, 3);
        rowThings(c, "own B", 1);
        rowThings(c, "all C");
        rowThings(c, "own averyname1");
        rowThings(c, "slots thing 0", 1, 2, 3);
        rowThings(c, "slots thing 2", 1);
        rowThings(c, "slots thing 4");
        rowThings(c, "slots thing 3", 3, 4);
        rowThings(c, "held thing 0", 1);
        rowThings(c, "held thing 1", 0, 2);
        rowThings(c, "held thing 3", 0, 3);
        rowThings(c, "from thing 0", 0, 1, 2, 3, 4);
        rowThings(c, "from thing 2", 2, 1, 0, 3, 4);
        rowThings(c, "from thing 3", 3, 4);
        rowThings(c, "from null");
        rowThings(c, "slots 7");
        rowThings(c, "held true");
        rowThings(c, "from thing 5");
        rowThings(c, "from thing 0.a.b");
        rowThings(c, "from thing 0.c.b", 4);
        c.x.set(0, 1, 1);
        c.x.set(0, 2, 1);
        c.x.take(0);
        rowThings(c, "slots thing 0", 1, 1, 1);
        rowThings(c, "held thing 1", 0, 0, 0);
        Check.refused("p", Check.INDEX, () -> c.x.ask(4));
        Check.refused("p", Check.INDEX, () -> c.x.ask(-1));
        Check.same("rows stay", c.x.about(11), 3);
        Check.same("a picture that was not taken", c.ask(1, "things"), 0);
    }

    private static void rows() {
        Check c = heap();
        rowThings(c, "\t\nthings\r where it.n=1or it . n = 4", 0, 3);
        rowThings(c, "things where 1");
        rowThings(c, "things where null");
        rowThings(c, "things where it", new int[0]);
        Check.same("rows", c.ask(0, "things get it.n"), 5);
        long[][] due = {{0, 0, 1}, {1, 0, 2}, {2, 4, 0}, {3, 0, 4}, {4, 4, 0}};
        rowValues(c, due);
        Check.same("rows", c.ask(0, "all A where not it.c = null or it.n > 3 get it.b"), 2);
        rowValues(c, new long[][] {{0, 2, 2}, {3, 2, 4}});
        Check.same("rows", c.ask(0, "all A get it.c"), 3);
        rowValues(c, new long[][] {{0, 2, 3}, {1, 3, 0}, {3, 3, 0}});
        Check.same("rows", c.ask(0, "all A get it is B"), 3);
        rowValues(c, new long[][] {{0, 1, 0}, {1, 1, 1}, {3, 1, 1}});
        Check.same("rows", c.ask(0, "slots thing 0"), 3);
        rowValues(c, new long[][] {{1, 2, 1}, {2, 2, 2}, {3, 2, 3}});
        Check.refused("row", Check.ELEMENT, () -> c.x.answer(-1, 0));
        Check.refused("what", Check.ELEMENT, () -> c.x.answer(0, 3));
        Check.refused("what", Check.ELEMENT, () -> c.x.answer(0, -1));
        c.x.take(0);
        Check.same("rows stay", c.x.answer(2, 0), 3);
        c.fault("things get", 1, 10);
        Check.refused("no rows", Check.ELEMENT, () -> c.x.answer(0, 0));
    }

    private static void rowValues(Check c, long[][] due) {
        for (int k = 0; k < due.length; k++) {
            for (int what = 0; what < 3; what++) {
                Check.same("row " + k + " what " + what, c.x.answer(k, what), due[k][what]);
            }
        }
    }

    private static void numbers() {
        Check c = heap();
        c.number("1 + 2 * 3 - 4", 3);
        c.number("2 - 3 - 4", -5);
        c.number("100 / 7 / 2", 7);
        c.number("100 / (7 / 2)", 33);
        c.number("17 % 5 * 2", 4);
        c.number("-7 / 2", -3);
        c.number("-7 % 2", -1);
        c.number("7 % -2", 1);
        c.number("- - -5", -5);
        c.number("1---1", 0);
        c.number("2*-3", -6);
        c.number("-2*3+1", -5);
        c.number("999999999999999999", 999999999999999999L);
        c.number("000000000000000007", 7);
        c.number("999999999999999999 * 10 + 7", 999999999999999999L * 10 + 7);
        c.number("999999999999999999 * 100", 999999999999999999L * 100);
        c.number("thing 4[1]", Long.MIN_VALUE);
        c.number("-thing 4[1]", Long.MIN_VALUE);
        c.number("thing 4[1] / -1", Long.MIN_VALUE);
        c.number("thing 4[1] % -1", 0);
        c.number("thing 4[1] - 1", Long.MAX_VALUE);
        c.nothing("1 / 0");
        c.nothing("1 % 0");
        c.nothing("1 / 0 * 0");
        c.nothing("1 + true");
        c.nothing("null + 1");
        c.nothing("- true");
        c.nothing("- null");
        c.nothing("it - 1");
        c.number("size it", 40);
        c.number("size thing 4 + size thing 2", 40 + 24);
        c.number("kept it", 40 + 48 + 24 + 48 + 40);
        c.number("kept thing 3", 88);
        c.number("depth thing 4", 2);
        c.number("depth it", 0);
        c.number("length thing 4", 3);
        c.number("length thing 2", 2);
        c.nothing("length it");
        c.nothing("length null");
        c.nothing("size 7");
        c.nothing("kept null");
        c.nothing("depth true");
        c.nothing("size size it");
        c.number("size it.c.b", 40);
        c.number("length it.b + 1", 3);
        c.number("(size it) + 1", 41);
    }

    private static void truths() {
        Check c = heap();
        c.truth("1 < 2", true);
        c.truth("2 <= 2", true);
        c.truth("2 > 2", false);
        c.truth("2 >= 3", false);
        c.truth("-1 < 1 and 1 < 2", true);
        c.truth("1 = 1", true);
        c.truth("1 != 1", false);
        c.truth("true = false", false);
        c.truth("true != false", true);
        c.truth("it = thing 0", true);
        c.truth("it = thing 1", false);
        c.truth("it != null", true);
        c.truth("null = null", true);
        c.truth("null != it", true);
        c.truth("it.a.c = null", true);
        c.nothing("1 = true");
        c.nothing("it = 0");
        c.nothing("null = 0");
        c.nothing("null != false");
        c.nothing("thing 9 = thing 9");
        c.nothing("thing 9 != it");
        c.nothing("1 / 0 = 1 / 0");
        c.nothing("null < null");
        c.nothing("true < false");
        c.nothing("it > 1");
        c.truth("not true", false);
        c.truth("not not true", true);
        c.truth("not 1 = 2", true);
        c.nothing("not 1");
        c.nothing("not null");
        c.truth("true or 1 / 0", true);
        c.truth("false and 1", false);
        c.truth("false or true and false", false);
        c.truth("true or true and false", true);
        c.truth("not false and true", true);
        c.truth("false or false or true", true);
        c.truth("true and true and false", false);
        c.nothing("1 / 0 or true");
        c.nothing("null and false");
        c.nothing("true and 1");
        c.nothing("false or null");
        c.nothing("true and 1 / 0 = 1");
        c.nothing("1 / 0 = 1 and false or true");
        c.truth("it is A", true);
        c.truth("it is B", false);
        c.truth("thing 3 is B", true);
        c.truth("thing 3 is A", true);
        c.truth("it is Nope", false);
        c.truth("thing 2 is A", false);
        c.nothing("null is A");
        c.nothing("1 is A");
        c.nothing("thing 9 is A");
        c.truth("not it is B", true);
    }

    private static void fields() {
        Check c = heap();
        c.number("it.n", 1);
        c.number("thing 1.n", 2);
        c.number("thing 1.st", 0);
        c.nothing("it.st");
        c.number("thing 3.f", 1);
        c.number("thing 3.n", 4);
        c.number("it.c.a.a.a.n", 4);
        c.value("from thing 0 where it = thing 0 get it.a", 2, 1);
        c.value("from thing 0 where it = thing 0 get it.a.c", 3, 0);
        c.nothing("it.zz");
        c.nothing("null.n");
        c.nothing("it.a.c.n");
        c.nothing("thing 2.n");
        c.nothing("7.n");
        c.nothing("it[0]");
        c.value("from thing 0 where it = thing 0 get it.b[0]", 2, 1);
        c.value("from thing 0 where it = thing 0 get it.b[1]", 3, 0);
        c.nothing("it.b[2]");
        c.nothing("it.b[-1]");
        c.nothing("it.b[true]");
        c.nothing("it.b[null]");
        c.nothing("thing 4[999999999999999999]");
        c.nothing("null[0]");
        c.nothing("2[0]");
        c.nothing("true[0]");
        c.nothing("thing 4 + 1");
        c.nothing("thing 4 < 1");
        c.nothing("1 * thing 4");
        c.number("thing 4[it.n - 1]", 0);
        c.number("it.b[0].a.b[thing 4[0]].n", 2);
        c.nothing("thing 5");
        c.nothing("thing 999999999999999999");
        c.value("from thing 0 where it = thing 0 get thing 4", 2, 4);
        c.value("from thing 0 where it = thing 0 get null", 3, 0);
    }

    private static void folds() {
        Check c = heap();
        c.number("count(x in things)", 5);
        c.number("count(x in all A where x.n > 1)", 2);
        c.number("count(x in things where x.n)", 0);
        c.number("count(x in from null)", 0);
        c.number("sum(x in things : x.n)", 7);
        c.number("sum(x in things where x != it : x.n)", 6);
        c.number("sum(x in things : true)", 0);
        c.number("sum(x in slots null : 1)", 0);
        c.number("most(x in things : x.n)", 4);
        c.number("least(x in things : x.n)", 1);
        c.number("most(x in things : -x.n)", -1);
        c.number("least(x in things : -x.n)", -4);
        c.nothing("most(x in things : x)");
        c.nothing("least(x in own Z : 1)");
        c.truth("some(x in things : x.n = 4)", true);
        c.truth("some(x in things : x.n)", false);
        c.truth("some(x in own Z : true)", false);
        c.truth("each(x in all A : x.n > 0)", true);
        c.truth("each(x in things : x.n > 0)", false);
        c.truth("each(x in things where x is A : x.n > 0)", true);
        c.truth("each(x in own Z : false)", true);
        c.number("sum(x in all A : sum(y in all A : x.n * y.n))", 49);
        c.number("count(x in from it where count(y in held x) > 1)", 2);
        c.number("sum(x in slots it : size x)", 48 + 24 + 48);
        c.number("count(x in things) + 1", 6);
        c.nothing("count(x in things).n");
        c.number("-count(x in things)", -5);
    }

    private static void scopes() {
        Check c = heap();
        c.number("sum(x in all A where x.n = 2 : sum(x in all A where x.n = 4 : x.n) + x.n)", 6);
        c.number("sum(x in all A where x.n = 1 : count(x in slots x))", 3);
        c.number("sum(x in all A : count(y in from x where y = it))", 2);
        c.fault("things where count(x in slots x) > 0", 3, 30);
        c.fault("things get x", 3, 11);
        c.fault("things get sum(x in things : 1) + x", 3, 34);
        c.fault("slots it", 3, 6);
        c.fault("held (it)", 3, 6);
        c.fault("from x where true", 3, 5);
        c.fault("slots size it", 3, 11);
        rowThings(c, "slots least(x in all A : 0)");
        Check.same("a fold in the set", c.ask(0, "from thing 0 where it = thing 0 get count(x in slots it where some(y in held x : y = it))"), 1);
        Check.same("three", c.x.answer(0, 2), 3);
    }

    private static void misplaced() {
        Check c = heap();
        c.fault("", 1, 0);
        c.fault("  ", 1, 2);
        c.fault("x", 1, 0);
        c.fault("all", 1, 3);
        c.fault("all 7", 1, 4);
        c.fault("all things", 1, 4);
        c.fault("own class", 1, 4);
        c.fault("things things", 1, 7);
        c.fault("things get 1 where true", 1, 13);
        c.fault("things where true where true", 1, 18);
        c.fault("things where", 1, 12);
        c.fault("things;", 1, 6);
        c.fault("things get 1 = 2 = 3", 1, 17);
        c.fault("things get it is A is A", 1, 19);
        c.fault("things get 1 < 2 is A", 1, 17);
        c.fault("things get it is", 1, 16);
        c.fault("things get it is 7", 1, 17);
        c.fault("things get 1 = not true", 1, 15);
        c.fault("things get 1 + not true", 1, 15);
        c.fault("things get (1", 1, 13);
        c.fault("things get 1)", 1, 12);
        c.fault("things get ()", 1, 12);
        c.fault("things get it.", 1, 14);
        c.fault("things get it.size", 1, 14);
        c.fault("things get it.7", 1, 14);
        c.fault("things get it[", 1, 14);
        c.fault("things get it[1", 1, 15);
        c.fault("things get it[1)", 1, 15);
        c.fault("things get thing", 1, 16);
        c.fault("things get thing x", 1, 17);
        c.fault("things get thing -1", 1, 17);
        c.fault("things get class", 1, 11);
        c.fault("things get 12ab", 1, 13);
        c.fault("things get count x", 1, 17);
        c.fault("things get count(7 in things)", 1, 17);
        c.fault("things get count(it in things)", 1, 17);
        c.fault("things get count(x of things)", 1, 19);
        c.fault("things get count(x in x)", 1, 22);
        c.fault("things get count(x in things : 1)", 1, 29);
        c.fault("things get count(x in things where true : 1)", 1, 40);
        c.fault("things get sum(x in things)", 1, 26);
        c.fault("things get each(x in things where true)", 1, 38);
        c.fault("things get some(x in things : true where true)", 1, 35);
        c.fault("things get most(x in things : 1", 1, 31);
        c.fault("things get + 1", 1, 11);
        c.fault("things get 1 +", 1, 14);
        c.fault("things get 1 2", 1, 13);
        c.fault("things get size", 1, 15);
        c.fault("things get size + 1", 1, 16);
        c.fault("things get 1, 2", 1, 12);
    }

    private static void wrongWords() {
        Check c = heap();
        c.fault("things get @", 2, 11);
        c.fault("@", 2, 0);
        c.fault("all abcdefghijk", 2, 4);
        c.fault("things where1234567", 2, 7);
        c.fault("things get 1234567890123456789", 2, 11);
        c.fault("things get 1 ! = 2", 2, 13);
        c.fault("things get 1 & 2", 2, 13);
        c.fault("things get it.abcdefghijk", 2, 14);
        c.fault("things \u00ff", 2, 7);
        c.fault("things \u0000", 2, 7);
        c.fault("things get _x", 2, 11);
        c.fault("things get ) @", 1, 11);
        c.fault("things get count(@ in things)", 2, 17);
        c.fault("things get (1 @", 2, 14);
        c.fault("things get thing @", 2, 17);
        c.fault("things \u000b", 2, 7);
    }

    private static void unknown() {
        Check c = heap();
        c.fault("things get abc", 3, 11);
        c.fault("things where y.n = 1", 3, 13);
        c.fault("things get sum(x in things : y)", 3, 29);
        // of several at one word 3 is told ahead of 4, 2 ahead of all
        String full = "things get " + Check.repeat("1+", 59);
        c.fault(full + "y", 3, full.length());
        c.fault(full + "@", 2, full.length());
        c.fault(full + ")", 1, full.length());
    }

    private static void tooManyNodes() {
        Check c = heap();
        // the set is one node; 60 numbers and 59 signs are 119 more
        String full = "things get 1" + Check.repeat("+1", 59);
        Check.same("120 nodes", c.ask(0, full), 5);
        c.fault(full + "+1", 4, full.length());
        c.fault(full + ".n", 4, full.length());
        c.fault(full + "[1]", 4, full.length());
        c.fault(full + " is A", 4, full.length() + 1);
        c.fault(full + " and true", 4, full.length() + 1);
        c.fault(full + " or", 4, full.length() + 1);
        c.fault(full + " !=", 4, full.length() + 1);
        Check.same("( is no node", c.ask(0, "things get (1" + Check.repeat("+1", 59) + ")"), 5);
        String less = "things get " + Check.repeat("-", 119);
        c.fault(less + "1", 4, less.length());
        c.fault(less + "-1", 4, less.length());
        Check.same("118 signs and a number", c.ask(0, "things get " + Check.repeat("-", 118) + "1"), 5);
        Check.same("value", c.x.answer(0, 2), 1);
        String nots = "things get " + Check.repeat("not ", 119);
        c.fault(nots + "true", 4, nots.length());
        c.fault(nots + "not true", 4, nots.length());
        String sizes = "things get " + Check.repeat("size ", 119);
        c.fault(sizes + "it", 4, sizes.length());
        c.fault(sizes + "size it", 4, sizes.length());
        c.fault(sizes + "thing 1", 4, sizes.length());
        c.fault(sizes + "count(x in things)", 4, sizes.length());
        c.fault(sizes + "y", 3, sizes.length());
        Check.same("118 of them", c.ask(0, "things get " + Check.repeat("size ", 118) + "it"), 5);
        String ones = "things get " + Check.repeat("1+", 59);
        c.fault(ones + "count(x in things)", 4, ones.length() + 11);
        Check.same("thing and its number are one", c.ask(0, ones + "thing 1"), 5);
        String dots = "things get it" + Check.repeat(".a", 118);
        Check.same("names", c.ask(0, dots), 5);
        c.fault(dots + ".", 4, dots.length());
        String bracket = "things get it" + Check.repeat("[1]", 59);
        c.fault(bracket + "[1]", 4, bracket.length());
        Check.same("59 of them", c.ask(0, bracket), 5);
        String where = "things where true" + Check.repeat(" and true", 59);
        Check.same("where counts too", c.ask(0, where), 5);
        c.fault(where + " get 1", 4, where.length() + 5);
    }

    private static void tooDeep() {
        Check c = heap();
        String ten = "things get " + Check.repeat("(", 10);
        Check.same("ten", c.ask(0, ten + "1" + Check.repeat(")", 10)), 5);
        c.fault(ten + "(1" + Check.repeat(")", 11), 4, ten.length());
        c.fault(ten + "it[1]" + Check.repeat(")", 10), 4, ten.length() + 2);
        c.fault(ten + "count(x in things)" + Check.repeat(")", 10), 4, ten.length());
        c.fault(ten + "count", 4, ten.length());
        Check.same("one behind another", c.ask(0, "things get " + Check.repeat("(1)+", 20) + "(1)"), 5);
        String brackets = "things get " + Check.repeat("it[", 10);
        Check.same("ten", c.ask(0, brackets + "1" + Check.repeat("]", 10)), 5);
        c.fault(brackets + "(1)", 4, brackets.length());
        String folds = "things get ";
        String ends = "";
        for (int k = 0; k < 10; k++) {
            folds += "sum(v" + k + " in own B:";
            ends += ")";
        }
        Check.same("ten", c.ask(0, folds + "1" + ends), 5);
        Check.same("value", c.x.answer(0, 2), 1);
        c.fault(folds + "(1)" + ends, 4, folds.length());
        c.fault(folds + "sum(w in things:1)" + ends, 4, folds.length());
        String inSets = "things get ";
        String close = "";
        for (int k = 0; k < 10; k++) {
            inSets += "count(v in slots ";
            close += ")";
        }
        Check.same("ten in sets", c.ask(0, inSets + "thing 0" + close), 5);
        c.fault(inSets + "(thing 0)" + close, 4, inSets.length());
        String mixed = "things where " + Check.repeat("(not (-it[sum(x in things where ", 2) + "(true";
        c.text(mixed);
        Check.refused("it has no end", Check.ARGUMENT, () -> c.x.ask(0));
        Check.same("not too deep", c.x.fault(0), 1);
        Check.same("at the end", c.x.fault(1), mixed.length());
    }

    // Things of a picture with so many things, all held by one array or two.
    private static Check many(int things) {
        Check c = new Check();
        c.type("A");
        c.field(0, "n", 3);
        int left = things;
        while (left > 0) {
            int array = c.x.make(29, Math.min(60, left - 1));
            c.x.root(array, true);
            left--;
            for (int k = 0; k < 60 && left > 0; k++) {
                c.x.set(array, k, c.x.make(0, 0));
                left--;
            }
        }
        Check.same("things", c.x.take(0), things);
        return c;
    }

    private static void meter() {
        Check c = many(100);
        // set 1; per thing: 1 given, fold 1, set 1, 100 * (1 given + n nodes)
        // 100 things: 1 + 100 * (3 + 100 * (1 + nodes)): nodes = 1 is 20301, nodes = 2 is 30301
        Check.same("20301", c.ask(0, "things get sum(x in things : 1)"), 100);
        c.fault("things get sum(x in things : -1)", 5, -1);
        Check.same("the latest one's fault", c.x.fault(0), 5);
        Check.same("it is gone", c.ask(0, "things"), 100);
        Check.same("no fault", c.x.fault(0), 0);
        Check.same("20301 + 9600", c.ask(0, "things get " + Check.repeat("-", 96) + "sum(x in things : 1)"), 100);
        Check.same("30000 is not too much", c.ask(0, exact("")), 1);
        c.fault(exact("-"), 5, -1);
        Check.same("and again", c.ask(0, exact("")), 1);
        // the 21 nodes for each thing in other ways
        String[] others = {"true" + Check.repeat(" and true", 10), "false" + Check.repeat(" or false", 10),
            Check.repeat("not ", 20) + "u", "u" + Check.repeat(".n", 20), "1" + Check.repeat("*1", 10),
            "u" + Check.repeat("[1]", 10), Check.repeat("kept ", 20) + "u"};
        for (String nodes : others) {
            String signs = Check.repeat("-", 20) + "1";
            Check.same("30000 with " + nodes, c.ask(0, exact("").replace(signs, nodes)), 1);
            c.fault(exact("-").replace(signs, nodes), 5, -1);
        }
    }

    // A question over 100 things, 60 of them in the slots of thing 0, that costs 30000, or 30001 with a sign ahead:
    // the set with its thing and the one thing that it gives 3; two sums over all things 2 + 100 * (1 + 2 + 100 * 2)
    // = 20302; + 1; two sums over the slots 3 + 60 * (1 + 3 + 60 * 2) = 7443; + 1; a sum of 21 nodes for each thing
    // 2 + 100 * (1 + 21) = 2202; 24 times + 1 are 48.
    private static String exact(String ahead) {
        return "held thing 5 get " + ahead + "sum(x in things : sum(y in things : 1))"
            + " + sum(z in slots thing 0 : sum(w in slots thing 0 : 1))"
            + " + sum(u in things : " + Check.repeat("-", 20) + "1)" + Check.repeat("+1", 24);
    }

    private static void meterOfSets() {
        // some and each look at no more than they need, and and or neither
        Check c = many(200);
        Check.same("some", c.ask(0, "things get some(x in things : true)"), 200);
        Check.same("each", c.ask(0, "things get each(x in from thing 0 : false)"), 200);
        c.fault("things get some(x in things : false)", 5, -1);
        Check.same("or", c.ask(0, "things get true or some(x in things : false)"), 200);
        Check.same("and", c.ask(0, "things get false and some(x in things : false)"), 200);
        Check.same("nothing and", c.ask(0, "things get null and some(x in things : false)"), 200);
        c.fault("things get false or some(x in things : false)", 5, -1);
        Check.same("a set gives what is in it alone", c.ask(0, "things get some(x in own Z : false)"), 200);
        Check.same("where", c.ask(0, "things where it is A get count(x in slots it)"), 196);
        Check.refused("spent rows", Check.ELEMENT, () -> {
            c.text("things get some(x in things : false)");
            try {
                c.x.ask(0);
            } catch (IllegalArgumentException e) {
                return c.x.answer(0, 0);
            }
            return null;
        });
    }
}
