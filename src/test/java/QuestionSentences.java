/** Questions, their words, values, meter and faults, word for word: promises 40, 41 and 45. */
final class QuestionSentences {
    private static final int LEAST = Integer.MIN_VALUE;
    private static final int MOST = Integer.MAX_VALUE;
    private static final String KEYWORDS = "all own things thing where get and or not null true false is in count sum most "
        + "least some each size kept depth length class slots held from it";

    static void run() {
        words();
        questions();
        sets();
        binding();
        atoms();
        folds();
        values();
        links();
        acts();
        truths();
        foldValues();
        meter();
        limits();
        faults();
        tooGreat();
        promise40();
        promise41();
        promise45();
    }

    private static void rows(Check c, String question, int... due) {
        c.text(question);
        int got = c.x.ask(0);
        Check.same(question, got, due.length);
        for (int k = 0; k < Math.min(got, due.length); k++) {
            Check.same(question + " row " + k, c.x.answer(k, 0), due[k]);
        }
    }

    private static void thing(Check c, String e, int t) {
        c.value("from thing 0 where it = thing 0 get " + e, 2, t);
    }

    private static void isNull(Check c, String e) {
        c.value("from thing 0 where it = thing 0 get " + e, 3, 0);
    }

    private static void words() {
        Document d = Document.terms();
        d.says("QUESTIONS are texts on the tape; words may have bytes 9, 10, 13, 32 between.", c -> {
            QuestionTest.heap(c);
            rows(c, "things where it.n=1", 0);
            rows(c, " \t\n\r things\twhere\nit\r.  n\t=\n1 \r", 0);
            for (int b = 0; b < 256; b++) {
                String text = "things" + (char) b + "where it.n = 1";
                if (b == 9 || b == 10 || b == 13 || b == 32) {
                    rows(c, text, 0);
                } else {
                    c.text(text);
                    Check.refused("byte " + b, Check.ARGUMENT, () -> c.x.ask(0));
                }
            }
        });
        d.says("Words are, here and in RULES alike: NAMES, KEYWORDS, NUMBERS, and ( ) [ ] , : ; . = != < <= > >= + - * / % (the "
            + "longest that can be).", c -> {
            QuestionTest.heap(c);
            // no blank is needed where words end by themselves, and none may be within one
            rows(c, "things where(it.n)>=1and it.n<=2and it.n!=2", 0);
            c.truth("1<=1", true);
            c.truth("1>=2", false);
            c.truth("1!=1", false);
            c.truth("1<-1", false);
            c.truth("1=-1", false);
            c.truth("2>1", true);
            c.number("7/2*2%4+1-1", 2);
            c.number("thing 4[0]", 0);
            c.number("sum(x in things:1)", 5);
            c.fault("things get 1 < = 2", 1, 15);
            c.fault("things get 1 > = 2", 1, 15);
            c.fault("things get 1 ! = 2", 2, 13);
            c.fault("things get 1 =< 2", 1, 14);
            c.fault("things get 1 == 2", 1, 14);
            c.fault("things get 1 <> 2", 1, 14);
            c.fault("things where ittrue", 3, 13);
            c.fault("things get 1a", 1, 12);
            c.fault("things get 1 , 1", 1, 13);
            c.fault("things ;", 1, 7);
            c.fault("thingsget 1", 1, 0);
        });
        d.says("KEYWORDS: all own things thing where get and or not null true false is in count sum most least some each size "
            + "kept depth length class slots held from it.", c -> {
            QuestionTest.heap(c);
            for (String keyword : KEYWORDS.split(" ")) {
                c.fault("all " + keyword, 1, 4);
                c.fault("things get it." + keyword, 1, 14);
                c.fault("things get count(" + keyword + " in things)", 1, 17);
                rows(c, "all " + keyword.toUpperCase());
            }
            c.fault("class", 1, 0);
            c.fault("things get class", 1, 11);
            rows(c, "all if");
            rows(c, "all link");
        });
    }

    private static void questions() {
        Document d = Document.terms();
        d.says("QUESTION: SET, perhaps where E, perhaps get E.", c -> {
            QuestionTest.heap(c);
            rows(c, "things", 0, 1, 2, 3, 4);
            rows(c, "things where it.n = 2", 1);
            rows(c, "things get it.n", 0, 1, 2, 3, 4);
            rows(c, "things where it.n = 2 get 7", 1);
            c.fault("", 1, 0);
            c.fault("where true", 1, 0);
            c.fault("get 1", 1, 0);
            c.fault("1", 1, 0);
            c.fault("things get 1 where true", 1, 13);
            c.fault("things where true where true", 1, 18);
            c.fault("things get 1 get 1", 1, 13);
            c.fault("things where", 1, 12);
            c.fault("things get", 1, 10);
            c.fault("things things", 1, 7);
        });
        d.says("In these it is a thing of the set.", c -> {
            QuestionTest.heap(c);
            rows(c, "slots thing 0 where it != thing 2 get it", 1, 3);
            Check.same("the first", c.x.answer(0, 2), 1);
            Check.same("the second", c.x.answer(1, 2), 3);
        });
        d.says("Its ROWS: the things of the set, in order, for which the first E (if there is one) is true, each with the value "
            + "of the second (itself without one).", c -> {
            QuestionTest.heap(c);
            rows(c, "from thing 2 where it is A", 1, 0, 3);
            long[][] due = {{1, 2, 1}, {0, 2, 0}, {3, 2, 3}};
            answers(c, due);
            rows(c, "from thing 2 where it is A get -it.n", 1, 0, 3);
            answers(c, new long[][] {{1, 0, -2}, {0, 0, -1}, {3, 0, -4}});
            rows(c, "things where false");
            rows(c, "things where 1");
            rows(c, "things where null");
            rows(c, "things where it");
            rows(c, "things where it.n");
            rows(c, "things where it.n > 1", 1, 3);
            rows(c, "own Z");
        });
    }

    private static void answers(Check c, long[][] due) {
        for (int k = 0; k < due.length; k++) {
            for (int what = 0; what < 3; what++) {
                Check.same("row " + k + " what " + what, c.x.answer(k, what), due[k][what]);
            }
        }
    }

    private static void sets() {
        Document d = Document.terms();
        d.says("SET: all NAME (things whose class IS one of that name),", c -> {
            QuestionTest.heap(c);
            rows(c, "all A", 0, 1, 3);
            rows(c, "all B", 1, 3);
            rows(c, "all Z");
            rows(c, "all a");
        });
        d.says("own NAME (whose class is one),", c -> {
            QuestionTest.heap(c);
            rows(c, "own A", 0, 3);
            rows(c, "own B", 1);
            rows(c, "own Z");
        });
        d.says("things (all),", c -> {
            QuestionTest.heap(c);
            rows(c, "things", 0, 1, 2, 3, 4);
            c.x.root(0, false);
            c.x.take(0);
            rows(c, "things");
        });
        d.says("slots P (what P's slots link to, in order, null left out, perhaps often the same),", c -> {
            HeapWorks x = QuestionTest.heap(c);
            rows(c, "slots thing 0", 1, 2, 3);
            rows(c, "slots thing 2", 1);
            rows(c, "slots thing 4");
            rows(c, "slots thing 0.c", 3, 4);
            x.set(0, 1, 1);
            x.set(0, 2, 0);
            x.take(0);
            rows(c, "slots thing 0", 1, 1, 0);
        });
        d.says("held P (holders of it that are things, in order of HOLDERS),", c -> {
            HeapWorks x = QuestionTest.heap(c);
            rows(c, "held thing 0", 1);
            rows(c, "held thing 1", 0, 2);
            rows(c, "held thing 3", 0, 3);
            x.root(2, true);
            x.set(2, 1, 1);
            x.take(0);
            // things 0, 2 (the array, a root now), 1, 3, 4: the array holds object 1 in two slots
            rows(c, "held thing 2", 0, 1, 1);
            rows(c, "held thing 1", 0);
        });
        d.says("from P (what is reached from it, in the order of a walk, itself first).", c -> {
            QuestionTest.heap(c);
            rows(c, "from thing 0", 0, 1, 2, 3, 4);
            rows(c, "from thing 2", 2, 1, 0, 3, 4);
            rows(c, "from thing 3", 3, 4);
            rows(c, "from thing 4", 4);
            rows(c, "from thing 0.b[0]", 1, 0, 2, 3, 4);
        });
    }

    private static void binding() {
        Document d = Document.terms();
        d.says("E: what binds least first, each from the left: or; and; not (ahead of what binds more than and);", c -> {
            QuestionTest.heap(c);
            c.truth("true or false and false", true);
            c.truth("(true or false) and false", false);
            c.truth("false and false or true", true);
            c.truth("not true or true", true);
            c.truth("not false and false", false);
            c.truth("not (false and false)", true);
            c.truth("not 1 = 2", true);
            c.truth("not it is B", true);
            c.truth("not not true", true);
            c.nothing("null or true");
            c.truth("true or null or false", true);
            c.nothing("false or null or true");
            c.truth("false and null and true", false);
            c.fault("things get 1 = not true", 1, 15);
            c.fault("things get - not true", 1, 13);
            c.fault("things get true not true", 1, 16);
            c.fault("things get or true", 1, 11);
            c.fault("things get true and", 1, 19);
        });
        d.says("one of = != < <= > >= or is NAME, at most one;", c -> {
            QuestionTest.heap(c);
            c.truth("1 + 1 = 2 * 1", true);
            c.truth("(1 = 1) = true", true);
            c.truth("(it is A) = true", true);
            String[] signs = {"=", "!=", "<", "<=", ">", ">="};
            for (String one : signs) {
                for (String other : signs) {
                    c.fault("things get 1 " + one + " 2 " + other + " 3", 1, 16 + one.length());
                }
                c.fault("things get 1 " + one + " 2 is A", 1, 16 + one.length());
                c.fault("things get it is A " + one + " 1", 1, 19);
            }
            c.fault("things get it is A is A", 1, 19);
            c.fault("things get it is", 1, 16);
            c.fault("things get it is 7", 1, 17);
            c.fault("things get it is it", 1, 17);
            c.fault("things get = 1", 1, 11);
            c.fault("things get 1 <", 1, 14);
        });
        d.says("+ -; * / %; - ahead (also several times); then P.", c -> {
            QuestionTest.heap(c);
            c.number("2 + 3 * 4", 14);
            c.number("(2 + 3) * 4", 20);
            c.number("2 - 3 - 4", -5);
            c.number("2 - 3 + 4", 3);
            c.number("100 / 10 / 5", 2);
            c.number("100 / (10 / 5)", 50);
            c.number("17 % 10 * 3", 21);
            c.number("3 * 17 % 10", 1);
            c.number("-2 * 3", -6);
            c.number("2 * -3", -6);
            c.number("-7 % 4", -3);
            c.number("--5", 5);
            c.number("---5", -5);
            c.number("1 - - - 1", 0);
            c.number("-it.n", -1);
            c.number("-(1 + 2)", -3);
            c.fault("things get + 1", 1, 11);
            c.fault("things get 1 * * 2", 1, 15);
            c.fault("things get 1 -", 1, 14);
            c.fault("things get -", 1, 12);
        });
        d.says("P: an ATOM, then any number of .NAME and [E].", c -> {
            QuestionTest.heap(c);
            c.number("it.a.a.a.n", 2);
            c.number("it.b[0].a.b[2 - 2].n", 2);
            c.number("(it).n", 1);
            c.number("thing 0.n", 1);
            c.nothing("count(x in things).n");
            c.nothing("7.n");
            c.fault("things get it.", 1, 14);
            c.fault("things get it.7", 1, 14);
            c.fault("things get it[]", 1, 14);
            c.fault("things get it[1", 1, 15);
            c.fault("things get it[1)", 1, 15);
            c.fault("things get .n", 1, 11);
            c.fault("things get it n", 1, 14);
        });
    }

    private static void atoms() {
        Document d = Document.terms();
        d.says("ATOM: a NUMBER (1 .. 18 digits), null, true, false, it,", c -> {
            QuestionTest.heap(c);
            c.number("0", 0);
            c.number("9", 9);
            c.number("999999999999999999", 999999999999999999L);
            c.number("000000000000000001", 1);
            c.fault("things get 1000000000000000000", 2, 11);
            c.fault("things get 0000000000000000001", 2, 11);
            isNull(c, "null");
            c.truth("true", true);
            c.truth("false", false);
            thing(c, "it", 0);
            c.fault("things get ()", 1, 12);
        });
        d.says("thing and a NUMBER (the thing of that number; NOTHING, if there is none),", c -> {
            QuestionTest.heap(c);
            for (int t = 0; t < 5; t++) {
                thing(c, "thing " + t, t);
            }
            c.nothing("thing 5");
            c.nothing("thing 400");
            c.nothing("thing 4294967296");
            c.nothing("thing 999999999999999999");
            c.fault("things get thing", 1, 16);
            c.fault("things get thing it", 1, 17);
            c.fault("things get thing -1", 1, 17);
            c.fault("things get thing (1)", 1, 17);
            c.fault("things get thing 1000000000000000000", 2, 17);
            Check.same("a picture without things", c.ask(1, "from thing 0"), 0);
        });
        d.says("a VARIABLE (a NAME), ( E ), size P, kept P, depth P, length P,", c -> {
            QuestionTest.heap(c);
            c.number("sum(abcdefghi0 in own B : abcdefghi0.n)", 2);
            c.fault("things get sum(abcdefghij0 in own B : 1)", 2, 15);
            c.number("(1)", 1);
            c.number("((1 + 1)) * 2", 4);
            c.number("size it.c.b", 40);
            c.number("kept it.c", 88);
            c.number("depth it.c.b + 1", 3);
            c.number("length it.c.b", 3);
            c.number("length it.b * 2", 4);
            c.nothing("size size it");
            c.number("size (it)", 40);
            c.fault("things get size", 1, 15);
            c.fault("things get size -1", 1, 16);
            c.fault("things get (1", 1, 13);
            c.fault("things get 1)", 1, 12);
        });
    }

    private static void folds() {
        Document d = Document.terms();
        d.says("or a FOLD: one of count sum most least some each, (, VARIABLE in SET, perhaps where E, perhaps : E, ).", c -> {
            QuestionTest.heap(c);
            c.number("count(x in things)", 5);
            c.number("count(x in things where x is A)", 3);
            String[] kinds = {"sum", "most", "least"};
            long[] due = {6, 4, 2};
            for (int k = 0; k < 3; k++) {
                c.number(kinds[k] + "(x in all B : x.n)", due[k]);
                c.number(kinds[k] + "(x in all A where x.n > 1 : x.n)", due[k]);
            }
            c.truth("some(x in things where x is A : x.n = 4)", true);
            c.truth("each(x in things where x is A : x.n > 0)", true);
            c.fault("things get count", 1, 16);
            c.fault("things get count x", 1, 17);
            c.fault("things get count()", 1, 17);
            c.fault("things get count(x things)", 1, 19);
            c.fault("things get count(x in)", 1, 21);
            c.fault("things get count(x in x)", 1, 22);
            c.fault("things get count(x in things", 1, 28);
            c.fault("things get sum(x in things : 1 where true)", 1, 31);
            c.fault("things get sum(x in things : 1 : 1)", 1, 31);
            c.fault("things get sum(x in things :)", 1, 28);
            c.fault("things get count(x in things where)", 1, 34);
        });
        d.says("A VARIABLE is known in the fold's two E (the inner one of two alike); in its SET not.", c -> {
            QuestionTest.heap(c);
            c.number("sum(x in all A where x.n = 4 : x.n)", 4);
            c.number("sum(x in own B : sum(x in own A : x.n) + x.n)", 5 + 2);
            c.number("sum(x in own B : sum(y in own A : x.n * y.n))", 10);
            c.number("sum(x in all A where x.n = 1 : count(x in slots x))", 3);
            c.fault("things get count(x in slots x)", 3, 28);
            c.fault("things get count(x in from x.a)", 3, 27);
            c.fault("things get count(x in things) + x", 3, 32);
            c.fault("things where some(x in things : true) and x = it", 3, 42);
            c.fault("things get sum(x in things : count(y in slots x)) + count(z in slots y)", 3, 69);
            c.fault("from x where true", 3, 5);
            c.fault("slots count(x in things).x.y[x]", 3, 29);
        });
        d.says("count has no : E, some and each must have one, sum, most, least too.", c -> {
            QuestionTest.heap(c);
            c.fault("things get count(x in things : 1)", 1, 29);
            c.fault("things get count(x in things where true : 1)", 1, 40);
            String[] kinds = {"some", "each", "sum", "most", "least"};
            for (String kind : kinds) {
                c.fault("things get " + kind + "(x in things)", 1, 23 + kind.length());
                c.fault("things get " + kind + "(x in things where true)", 1, 34 + kind.length());
                rows(c, "own B get " + kind + "(x in things : 1)", 1);
            }
        });
        d.says("it is known everywhere in a QUESTION's two E; in a PROMISE (one E) nowhere (FAULT 3).", c -> {
            QuestionTest.heap(c);
            rows(c, "things where count(x in slots it where x = it.c) = 1", 0);
            c.number("sum(x in slots it : sum(y in slots it where y != it : 1))", 9);
            c.fault("slots it", 3, 6);
            c.fault("held it where true", 3, 5);
            c.fault("from (it)", 3, 6);
            c.fault("slots thing 2[count(x in slots it)]", 3, 31);
            String[] promises = {"it = it", "it", "some(x in things : x = it)", "count(x in slots it) = 0",
                "each(it1 in things : it.n = 1)"};
            int[] places = {0, 0, 23, 17, 21};
            for (int k = 0; k < promises.length; k++) {
                c.text(promises[k]);
                Check.refused(promises[k], Check.ARGUMENT, () -> c.x.promise());
                Check.same(promises[k] + " fault", c.x.fault(0), 3);
                Check.same(promises[k] + " place", c.x.fault(1), places[k]);
            }
        });
    }

    private static void values() {
        Document d = Document.terms();
        d.says("VALUES are whole numbers (64 bits), truths, things, null, and NOTHING.", c -> {
            QuestionTest.heap(c);
            c.number("999999999999999999 * 9 + 223372036854775816", Long.MAX_VALUE);
            c.number("thing 4[1]", Long.MIN_VALUE);
            c.truth("1 = 1", true);
            thing(c, "it.a", 1);
            isNull(c, "it.a.c");
            c.nothing("it.zz");
        });
        d.says("NUMBER; .NAME of a thing: the value of the slot whose field (no STATIC one) has that name, of the class nearest "
            + "to the thing's own (a LINK: a thing or null; a BIT too is a number), NOTHING without such, or of an array;", c -> {
            QuestionTest.heap(c);
            c.number("12", 12);
            c.number("it.n", 1);
            c.number("thing 1.n", 2);
            c.number("thing 3.n", 4);
            c.number("thing 3.f", 1);
            c.number("it.f", 0);
            c.number("thing 3.st", 9);
            c.nothing("it.st");
            thing(c, "it.b", 2);
            isNull(c, "thing 1.b");
            c.nothing("it.zz");
            c.nothing("thing 2.n");
            c.nothing("thing 4.length1");
            c.nothing("null.n");
            c.nothing("7.n");
            c.nothing("true.n");
            c.nothing("thing 9.n");
        });
        d.says("[E] of an array: that element; NOTHING outside.", c -> {
            QuestionTest.heap(c);
            thing(c, "it.b[0]", 1);
            isNull(c, "it.b[1]");
            c.number("thing 4[0]", 0);
            c.number("thing 4[2]", 0);
            c.nothing("thing 4[3]");
            c.nothing("thing 4[-1]");
            c.nothing("thing 4[4294967296]");
            c.nothing("thing 4[thing 4[1]]");
            c.nothing("thing 4[null]");
            c.nothing("thing 4[true]");
            c.nothing("thing 4[it]");
            c.nothing("it[0]");
            c.nothing("null[0]");
            c.nothing("7[0]");
        });
        d.says("length: an array's; size, kept, depth: a thing's.", c -> {
            QuestionTest.heap(c);
            c.number("length thing 2", 2);
            c.number("length thing 4", 3);
            c.nothing("length it");
            c.number("size it", 40);
            c.number("size thing 4", 40);
            c.number("kept thing 4", 40);
            c.number("kept it", 40 + 48 + 24 + 48 + 40);
            c.number("depth it", 0);
            c.number("depth thing 4", 2);
            String[] acts = {"length", "size", "kept", "depth"};
            String[] none = {"null", "7", "true", "thing 9"};
            for (String act : acts) {
                for (String of : none) {
                    c.nothing(act + " " + of);
                }
            }
        });
        d.says("is: whether a thing's class IS one of that name (arrays never).", c -> {
            QuestionTest.heap(c);
            c.truth("it is A", true);
            c.truth("it is B", false);
            c.truth("thing 1 is A", true);
            c.truth("thing 3 is B", true);
            c.truth("it is Z", false);
            c.truth("thing 2 is A", false);
            c.truth("thing 4 is A", false);
            c.nothing("null is A");
            c.nothing("7 is A");
            c.nothing("true is A");
            c.nothing("thing 9 is A");
        });
    }

    private static void links() {
        Document.terms().says("= and !=: two of one sort (things, with null, by which they are).", c -> {
            QuestionTest.heap(c);
            c.truth("1 = 1", true);
            c.truth("1 != 1", false);
            c.truth("thing 4[1] = -thing 4[1]", true);
            c.truth("true = true", true);
            c.truth("true != false", true);
            c.truth("false = true", false);
            c.truth("it = it.a.a", true);
            c.truth("it != thing 0", false);
            c.truth("it = thing 1", false);
            c.truth("thing 4 = thing 4", true);
            c.truth("null = null", true);
            c.truth("null != null", false);
            c.truth("it = null", false);
            c.truth("null != it", true);
            String[] left = {"1", "true", "it", "thing 9"};
            String[] right = {"0", "false", "null", "1 / 0"};
            for (int k = 0; k < 4; k++) {
                for (int j = 0; j < 4; j++) {
                    if (k != j || k == 3) {
                        c.nothing(left[k] + " = " + right[j]);
                        c.nothing(right[j] + " != " + left[k]);
                    }
                }
            }
        });
    }

    private static void acts() {
        Document d = Document.terms();
        d.says("< and so on, + - * / % and -: numbers; 64 bits wrap;", c -> {
            QuestionTest.heap(c);
            boolean[][] due = {{true, true, false, false}, {false, true, false, true}, {false, false, true, true}};
            String[] signs = {"<", "<=", ">", ">="};
            for (int k = 0; k < 4; k++) {
                for (int v = 0; v < 3; v++) {
                    c.truth(4 + v + " " + signs[k] + " 5", due[v][k]);
                }
            }
            c.truth("thing 4[1] < 0", true);
            c.truth("thing 4[1] - 1 > 0", true);
            c.number("thing 4[1] - 1", Long.MAX_VALUE);
            c.number("-thing 4[1]", Long.MIN_VALUE);
            c.number("0 - thing 4[1]", Long.MIN_VALUE);
            c.number("thing 4[1] + thing 4[1]", 0);
            c.number("thing 4[1] * -1", Long.MIN_VALUE);
            c.number("thing 4[1] / -1", Long.MIN_VALUE);
            c.number("thing 4[1] % -1", 0);
            c.number("999999999999999999 * 999999999999999999", 999999999999999999L * 999999999999999999L);
            String[] all = {"<", "<=", ">", ">=", "+", "-", "*", "/", "%"};
            String[] none = {"true", "null", "it", "thing 9"};
            for (String sign : all) {
                for (String other : none) {
                    c.nothing("1 " + sign + " " + other);
                    c.nothing(other + " " + sign + " 1");
                }
            }
            for (String other : none) {
                c.nothing("-" + other);
            }
        });
        d.says("/ and % toward 0 (NOTHING by 0).", c -> {
            QuestionTest.heap(c);
            c.number("7 / 2", 3);
            c.number("-7 / 2", -3);
            c.number("7 / -2", -3);
            c.number("-7 / -2", 3);
            c.number("7 % 2", 1);
            c.number("-7 % 2", -1);
            c.number("7 % -2", 1);
            c.number("-7 % -2", -1);
            c.number("0 / 5", 0);
            c.nothing("7 / 0");
            c.nothing("7 % 0");
            c.nothing("0 / 0");
            c.nothing("0 % 0");
            c.nothing("thing 4[1] / (1 - 1)");
        });
    }

    private static void truths() {
        Document d = Document.terms();
        d.says("and, or, not: truths; false and .. , true or .. are that; with true and .. , false or .. the right one is "
            + "worked out, else not;", c -> {
            QuestionTest.heap(c);
            String[] values = {"true", "false", "null", "7", "it", "thing 9"};
            for (String right : values) {
                c.truth("false and " + right, false);
                c.truth("true or " + right, true);
            }
            c.truth("true and true", true);
            c.truth("true and false", false);
            c.truth("false or true", true);
            c.truth("false or false", false);
            c.truth("not true", false);
            c.truth("not false", true);
            for (int k = 2; k < values.length; k++) {
                c.nothing("true and " + values[k]);
                c.nothing("false or " + values[k]);
                c.nothing(values[k] + " and false");
                c.nothing(values[k] + " or true");
                c.nothing("not " + values[k]);
            }
        });
        d.says("all else with NOTHING, or another sort than is said, is NOTHING.", c -> {
            QuestionTest.heap(c);
            String[] acts = {"thing 9 + 1", "1 - thing 9", "thing 9 = thing 9", "thing 9 != null", "thing 9 < 1", "-thing 9",
                "not thing 9", "thing 9.n", "thing 9[0]", "thing 4[thing 9]", "size thing 9", "thing 9 is A", "thing 9 and true",
                "thing 9 or true", "1 + true", "null < 1", "-null", "not 1", "it + it", "true * 2", "null.n", "size 1"};
            for (String act : acts) {
                c.nothing(act);
            }
            rows(c, "things where thing 9");
        });
        d.says("Of acts but and, or both are worked out, the left one first.", c -> {
            Meter m = new Meter(c);
            m.costs("1 / 0 + (1 + 1)", 7);
            m.costs("null = (1 + 1)", 5);
            m.costs("null[1 + 1]", 5);
            m.costs("true < (1 + 1)", 5);
            m.costs("1 / 0 and (1 = 1)", 4);
            m.costs("null or (1 = 1)", 2);
        });
        d.says("Sets of null or NOTHING, or of what is no thing: empty.", c -> {
            QuestionTest.heap(c);
            String[] sets = {"slots", "held", "from"};
            String[] none = {"null", "thing 9", "7", "true", "thing 0.n", "thing 1.b", "thing 0.zz"};
            for (String set : sets) {
                for (String of : none) {
                    rows(c, set + " " + of);
                    c.number("count(x in " + set + " " + of + ")", 0);
                }
            }
        });
        d.says("where takes a thing if its E is true.", c -> {
            QuestionTest.heap(c);
            String[] not = {"false", "null", "7", "x", "thing 9", "x.zz", "1"};
            for (String e : not) {
                c.number("count(x in things where " + e + ")", 0);
            }
            c.number("count(x in things where true)", 5);
            c.number("count(x in things where x.n = 2)", 1);
        });
    }

    private static void foldValues() {
        Document d = Document.terms();
        d.says("count: how many; sum: of the numbers (others count nothing; 0 for none);", c -> {
            QuestionTest.heap(c);
            c.number("count(x in things)", 5);
            c.number("count(x in own Z)", 0);
            c.number("sum(x in things : x.n)", 7);
            c.number("sum(x in things : x)", 0);
            c.number("sum(x in things : true)", 0);
            c.number("sum(x in things : null)", 0);
            c.number("sum(x in own Z : 1)", 0);
            c.number("sum(x in own A : thing 4[1])", 0);
            c.number("sum(x in own B : thing 4[1] - 1)", Long.MAX_VALUE);
        });
        d.says("most, least: of the numbers (NOTHING without one);", c -> {
            QuestionTest.heap(c);
            c.number("most(x in things : x.n)", 4);
            c.number("least(x in things : x.n)", 1);
            c.number("most(x in things : -x.n)", -1);
            c.number("least(x in things : -x.n)", -4);
            c.number("most(x in own B : thing 4[1])", Long.MIN_VALUE);
            c.number("least(x in own B : thing 4[1] - 1)", Long.MAX_VALUE);
            c.nothing("most(x in own Z : 1)");
            c.nothing("least(x in own Z : 1)");
            c.nothing("most(x in things : x)");
            c.nothing("least(x in things : true)");
            c.nothing("most(x in things where false : 1)");
            c.number("most(x in things : 0)", 0);
        });
        d.says("some, each: whether E is true for one, for all of them (the rest is not looked at).", c -> {
            QuestionTest.heap(c);
            c.truth("some(x in things : x.n = 4)", true);
            c.truth("some(x in things : x.n = 5)", false);
            c.truth("some(x in things : x.n)", false);
            c.truth("some(x in own Z : true)", false);
            c.truth("each(x in all A : x.n > 0)", true);
            c.truth("each(x in things : x.n > 0)", false);
            c.truth("each(x in things : null)", false);
            c.truth("each(x in own Z : false)", true);
            Meter m = new Meter(new Check());
            m.costs("some(x in things : true)", 4);
            m.costs("some(x in things : x = thing 1)", 2 + 2 * 4);
            m.costs("some(x in things : false)", 2 + 2 * Meter.THINGS);
            m.costs("each(x in things : false)", 4);
            m.costs("each(x in things : x != thing 1)", 2 + 2 * 4);
            m.costs("each(x in things : true)", 2 + 2 * Meter.THINGS);
        });
    }

    /** Finds out what an E costs: it stands beside a filling that is made greater until it is SPENT. */
    private static final class Meter {
        static final int THINGS = 4;

        private static final int LEAST_FILLING = 9035;

        private final Check c;

        // 0: an array of 60 links to itself, 1: of 10, 2: an object A(n) that links to nothing, 3: an array of 3 nulls
        Meter(Check fresh) {
            c = fresh;
            HeapWorks x = c.x;
            c.type("A");
            c.field(0, "n", 3);
            int[] lengths = {60, 10};
            for (int o = 0; o < 2; o++) {
                x.make(29, lengths[o]);
                for (int k = 0; k < lengths[o]; k++) {
                    x.set(o, k, o);
                }
            }
            x.make(0, 0);
            x.make(29, 3);
            for (int o = 0; o < THINGS; o++) {
                x.root(o, true);
            }
            Check.same("things", x.take(0), THINGS);
        }

        // Costs its 1 and its signs.
        private static String ones(int cost) {
            return Check.repeat("-", cost - 1) + "1";
        }

        // A sum over things that are in another's slots costs 3, and each of them 1 and what is summed up; so with m:
        // 3843 + 3600 m, 843 + 600 m, 63 + 60 m, 13 + 10 m; and there are three + and the signs that are left.
        private static String filling(int cost) {
            int left = cost - LEAST_FILLING;
            int m = Math.min(left / 3600, 6);
            left -= 3600 * m;
            return "sum(v in slots thing 0:sum(w in slots thing 0:" + ones(m + 1) + "))"
                + "+sum(v in slots thing 0:sum(w in slots thing 1:" + ones(left / 600 + 1) + "))"
                + "+sum(v in slots thing 0:" + ones(left % 600 / 60 + 1) + ")"
                + "+" + Check.repeat("-", left % 10) + "sum(v in slots thing 1:" + ones(left % 60 / 10 + 1) + ")";
        }

        private boolean isSpent(String question) {
            c.text(question);
            try {
                Check.same(question, c.x.ask(0), 1);
                return false;
            } catch (IllegalArgumentException e) {
                Check.same(question + " fault", c.x.fault(0), 5);
                Check.same(question + " place", c.x.fault(1), -1);
                Check.same(question + " rows", c.x.about(11), 0);
                return true;
            }
        }

        // The set, its thing, the one that it gives and = are 4 more.
        void costs(String e, int due) {
            int filling = 30000 - 4 - due;
            Check.same(e + " costs " + due + " at most", isSpent("from thing 2 get " + filling(filling) + "=(" + e + ")"), false);
            Check.same(e + " costs " + due, isSpent("from thing 2 get " + filling(filling + 1) + "=(" + e + ")"), true);
        }
    }

    private static void meter() {
        Document d = Document.terms();
        d.says("METER: 1 for each node when its working out begins (sets, too),", c -> {
            Meter m = new Meter(c);
            String[] ones = {"1", "null", "true", "false", "it", "thing 2", "thing 9", "(1)", "((1))"};
            for (String e : ones) {
                m.costs(e, 1);
            }
            String[] twos = {"-1", "not true", "it.n", "it.zz", "size it", "kept it", "depth it", "length it", "it is A",
                "null.n", "size null"};
            for (String e : twos) {
                m.costs(e, 2);
            }
            String[] signs = {"+", "-", "*", "/", "%", "=", "!=", "<", "<=", ">", ">="};
            for (String sign : signs) {
                m.costs("1 " + sign + " 1", 3);
            }
            m.costs("thing 0[1]", 3);
            m.costs("true and true", 3);
            m.costs("false and true", 2);
            m.costs("false or true", 3);
            m.costs("true or true", 2);
            m.costs("--1 + it.n * 2", 8);
            m.costs("count(x in own Z)", 2);
            m.costs("count(x in all Z)", 2);
            m.costs("count(x in slots null)", 3);
            m.costs("count(x in held it)", 3);
            m.costs("count(x in from null)", 3);
        });
        d.says("for each thing when a set gives it, one by one, each worked out ahead of the next;", c -> {
            Meter m = new Meter(c);
            m.costs("count(x in things)", 2 + 4);
            m.costs("count(x in things where true)", 2 + 8);
            m.costs("count(x in things where x.n = 0)", 2 + 4 * 5);
            m.costs("sum(x in things : x.n)", 2 + 4 * 3);
            m.costs("sum(x in things where x is A : x.n)", 2 + 4 * 3 + 2);
            m.costs("count(x in own A)", 3);
            m.costs("count(x in all A)", 3);
            m.costs("count(x in slots thing 1)", 3 + 10);
            m.costs("count(x in slots thing 3)", 3);
            m.costs("count(x in held thing 1)", 3 + 10);
            m.costs("count(x in from thing 1)", 3 + 1);
            m.costs("sum(x in things : count(y in things))", 2 + 4 * 7);
            m.costs("some(x in slots thing 1 : x = thing 1)", 3 + 4);
            m.costs("each(x in slots thing 0 : some(y in slots x : true))", 3 + 60 * 6);
        });
        d.says("when it would be 30001 it is SPENT.", c -> {
            Meter m = new Meter(c);
            m.costs("1", 1);
            // 400 things: 0 holds 1 .. 60, 1 holds 61 .. 120, and so on; 6 holds 39
            Check many = new Check();
            for (int k = 0; k < 400; k++) {
                many.x.make(29, k < 7 ? 60 : 0);
            }
            for (int k = 1; k < 400; k++) {
                many.x.set((k - 1) / 60, (k - 1) % 60, k);
            }
            many.x.root(0, true);
            Check.same("things", many.x.take(0), 400);
            // the set 1; 399 things with where 1 + 4 + 69; thing 0 with where 1 + 4, and get 23 + 363 + 1 + 81
            String where = "things where it = thing 0 or " + Check.repeat("-", 66) + "1 < 0 get ";
            String get = Check.repeat("-", 23) + "sum(v in slots thing 0:----1)+sum(v in slots thing 6:1)";
            Check.same("30000", many.ask(0, where + get), 1);
            Check.same("its value", many.x.answer(0, 2), 39 - 60);
            many.fault(where + "-" + get, 5, -1);
            Check.same("29999", many.ask(0, where + get.substring(1)), 1);
        });
    }

    private static void limits() {
        Document d = Document.terms();
        d.says("A question has at most 120 nodes (NUMBERS, null, true, false, it, thing with its NUMBER, variables, each act, "
            + "each .NAME, [], fold, and sets),", c -> {
            QuestionTest.heap(c);
            String[] ones = {"7", "null", "true", "false", "it", "thing 1", "(7)", "thing 1"};
            for (String one : ones) {
                // the set, 118 signs, and one more
                rows(c, "own B get " + Check.repeat("-", 118) + one, 1);
                String full = "own B get " + Check.repeat("-", 119);
                c.fault(full + one, 4, full.length() + (one.startsWith("(") ? 1 : 0));
            }
            String[] twos = {"-7", "size it", "it.n", "it is A", "count(x in things)"};
            int[] second = {1, 5, 2, 3, 11};
            for (int k = 0; k < twos.length; k++) {
                rows(c, "own B get " + Check.repeat("-", 117) + twos[k], 1);
                String less = "own B get " + Check.repeat("-", 118);
                c.fault(less + twos[k], 4, less.length() + second[k]);
                c.fault(less + "-" + twos[k], 4, less.length() + 1);
            }
            String[] threes = {"1 + 1", "it[1]", "1 < 1", "true = true", "sum(x in things:1)", "count(x in slots it)"};
            int[] third = {4, 3, 4, 7, 16, 17};
            for (int k = 0; k < threes.length; k++) {
                rows(c, "own B get " + Check.repeat("-", 116) + threes[k], 1);
                String less = "own B get " + Check.repeat("-", 117);
                c.fault(less + threes[k], 4, less.length() + third[k]);
            }
            rows(c, "own B get " + Check.repeat("-", 115) + "sum(x in things:x.n)", 1);
            rows(c, "own B where true" + Check.repeat(" and true", 58) + " get 1", 1);
            String where = "own B where true" + Check.repeat(" and true", 58) + " get ";
            c.fault(where + "1 + 1", 4, where.length() + 4);
        });
        d.says("at most 10 ( , [ , folds (with their ( ) in one another.", c -> {
            QuestionTest.heap(c);
            String[] begin = {"(", "it[", "count(x in slots ", "sum(x in own B:", "sum(x in own B where ", "-(", "size ("};
            String[] end = {")", "]", ")", ")", ":1)", ")", ")"};
            for (int k = 0; k < begin.length; k++) {
                String ten = "own B get " + Check.repeat(begin[k], 10);
                rows(c, ten + "1" + Check.repeat(end[k], 10), 1);
                c.fault(ten + "(1)" + Check.repeat(end[k], 10), 4, ten.length());
                c.fault(ten + "it[1]" + Check.repeat(end[k], 10), 4, ten.length() + 2);
                c.fault(ten + "count(x in things)" + Check.repeat(end[k], 10), 4, ten.length());
                c.fault(ten + "count", 4, ten.length());
                String nine = "own B get " + Check.repeat(begin[k], 9);
                rows(c, nine + "(1)" + Check.repeat(end[k], 9), 1);
                if (!begin[k].endsWith("slots ")) {
                    rows(c, nine + "(1) + (1) + it[1] + count(y in things)" + Check.repeat(end[k], 9), 1);
                }
            }
            rows(c, "own B get " + Check.repeat("(1)+", 30) + "(1)", 1);
            rows(c, "own B get " + Check.repeat("it[1]+", 20) + "1", 1);
            rows(c, "own B get " + Check.repeat("count(x in own B)+", 30) + "1", 1);
            Check.same("30 folds side by side", c.x.answer(0, 2), 31);
            rows(c, "from " + Check.repeat("(", 10) + "thing 4" + Check.repeat(")", 10), 4);
            c.fault("from " + Check.repeat("(", 11) + "thing 4" + Check.repeat(")", 11), 4, 15);
        });
    }

    private static void faults() {
        Document d = Document.terms();
        d.says("FAULTS of reading, from the left, at the word where it can't go on (the end: the tape's length): 1 a word that "
            + "can't stand there;", c -> {
            QuestionTest.heap(c);
            c.fault("", 1, 0);
            c.fault("   ", 1, 3);
            c.fault("all", 1, 3);
            c.fault("all  ", 1, 5);
            c.fault("all 7", 1, 4);
            c.fault("things get ) @ 1234567890123456789", 1, 11);
            c.fault("things get 1 2 y", 1, 13);
            c.fault("things get (1 ", 1, 14);
            c.fault("things get count(x in things\n", 1, 29);
        });
        d.says("2 what is none (a NAME too long, a NUMBER of more than 18 digits, another byte);", c -> {
            QuestionTest.heap(c);
            c.fault("all abcdefghijk", 2, 4);
            c.fault("own a1234567890", 2, 4);
            c.fault("things get it.abcdefghijk", 2, 14);
            c.fault("things get abcdefghijk", 2, 11);
            c.fault("wheregetand", 2, 0);
            c.fault("things get 1234567890123456789", 2, 11);
            c.fault("things get thing 1234567890123456789", 2, 17);
            for (int b = 0; b < 256; b++) {
                boolean word = b >= '0' && b <= '9' || b >= 'A' && b <= 'Z' || b >= 'a' && b <= 'z'
                    || "()[],:;.=<>+-*/% \t\n\r".indexOf((char) b) >= 0;
                if (!word) {
                    c.fault("things get 1 " + (char) b, 2, 13);
                    c.fault("" + (char) b, 2, 0);
                }
            }
        });
        d.says("3 a variable that is none;", c -> {
            QuestionTest.heap(c);
            c.fault("things get y", 3, 11);
            c.fault("things where y.n = 1", 3, 13);
            c.fault("things get sum(x in things : y)", 3, 29);
            c.fault("things get sum(x in things : X)", 3, 29);
            c.fault("things get A", 3, 11);
            c.fault("slots y", 3, 6);
        });
    }

    private static void tooGreat() {
        Document d = Document.terms();
        d.says("4 too great: a 121st node, the 11th in one another (at the word that makes it: a node's first word; of an act "
            + "between two its sign, . or [).", c -> {
            QuestionTest.heap(c);
            // 120 nodes: what stands behind them is told at its own first word
            String full = "things get " + Check.repeat("-", 118) + "1";
            String[] signs = {"+", "-", "*", "/", "%", "=", "!=", "<", "<=", ">", ">=", ".n", "[1]", " is A", " and true",
                " or true"};
            for (String sign : signs) {
                c.fault(full + sign, 4, full.length() + (sign.startsWith(" ") ? 1 : 0));
            }
            String ahead = "things get " + Check.repeat("not ", 119);
            String[] first = {"not", "1", "it", "thing", "size", "count", "sum", "-"};
            for (String word : first) {
                c.fault(ahead + word, 4, ahead.length());
            }
            String set = "things get " + Check.repeat("-", 118) + "count(x in ";
            String[] sets = {"things", "all", "own", "slots", "held", "from"};
            for (String word : sets) {
                c.fault(set + word, 4, set.length());
            }
            String deep = "things get " + Check.repeat("(", 10);
            c.fault(deep + "(", 4, deep.length());
            c.fault(deep + "it [", 4, deep.length() + 3);
            c.fault(deep + "each", 4, deep.length());
            // the 121st node is told, not what is wrong behind it
            c.fault(full + " + @", 4, full.length() + 1);
        });
        d.says("Of several at one word: 2, 1, 3, 4.", c -> {
            QuestionTest.heap(c);
            String full = "things get " + Check.repeat("-", 119);
            c.fault(full + "@", 2, full.length());
            c.fault(full + "abcdefghijk", 2, full.length());
            c.fault(full + ")", 1, full.length());
            c.fault(full + "class", 1, full.length());
            c.fault(full, 1, full.length());
            c.fault(full + "y", 3, full.length());
            c.fault(full + "it", 4, full.length());
            // a second = can't stand there, and would be the 121st node too
            String second = "things get " + Check.repeat("-", 116) + "1 = 1 ";
            c.fault(second + "= 1", 1, second.length());
            c.fault(second + "+ 1", 4, second.length());
            // where a variable that is none can't stand
            c.fault("things get 1 y", 1, 13);
            c.fault("things y", 1, 7);
            String deep = "things get " + Check.repeat("(", 10);
            c.fault(deep + "y", 3, deep.length());
            c.text(Check.repeat("-", 120) + "it");
            Check.refused("it, the 121st", Check.ARGUMENT, () -> c.x.promise());
            Check.same("3 ahead of 4", c.x.fault(0), 3);
            Check.same("place", c.x.fault(1), 120);
        });
        d.says("(Names of classes and fields need not be any.)", c -> {
            QuestionTest.heap(c);
            rows(c, "all Nowhere");
            rows(c, "own Nowhere");
            rows(c, "things where it.nowhere = 1");
            rows(c, "things where it is Nowhere");
            rows(c, "own B get it.nowhere", 1);
        });
        d.says("5: SPENT (place NONE; a promise() that is SPENT is no FAULT, but BROKEN at once).", c -> {
            HeapWorks x = c.x;
            x.make(29, 60);
            for (int k = 0; k < 60; k++) {
                x.set(0, k, 0);
            }
            x.root(0, true);
            x.take(0);
            String spent = "each(u in slots thing 0 : each(v in slots thing 0 : each(w in slots thing 0 : true)))";
            c.fault("things get " + spent, 5, -1);
            c.fault("things where " + spent, 5, -1);
            c.text(spent);
            Check.same("a promise", x.promise(), 0);
            Check.same("no fault", x.fault(0), 0);
            Check.same("no place", x.fault(1), -1);
            Check.same("broken at once", x.broken(0), -1);
        });
    }

    private static void promise40() {
        Document d = Document.promise(40);
        d.says("The tape (it stays) is a QUESTION to picture p: how many rows.", c -> {
            HeapWorks x = QuestionTest.heap(c);
            x.root(4, true);
            x.take(2);
            x.root(0, false);
            x.take(3);
            c.text("things ");
            int[] due = {5, 0, 5, 1};
            for (int p = 0; p < 4; p++) {
                Check.same("picture " + p, x.ask(p), due[p]);
                Check.same("rows", x.about(11), due[p]);
            }
            Check.same("the tape stays", x.about(0), 7);
            Check.same("its letter", x.letter(6), ' ');
        });
        d.says("IndexOutOfBoundsException: p.", c -> {
            QuestionTest.heap(c);
            rows(c, "things", 0, 1, 2, 3, 4);
            c.text("(");
            int[] none = {-1, 4, LEAST, MOST};
            for (int p : none) {
                Check.refused("ask " + p, Check.INDEX, () -> c.x.ask(p));
            }
            Check.same("rows stay", c.x.about(11), 5);
            Check.same("no fault", c.x.fault(0), 0);
        });
        d.says("IllegalArgumentException: a FAULT (there are no rows then).", c -> {
            QuestionTest.heap(c);
            String[] wrong = {"(", "@", "things get y", "things get " + Check.repeat("-", 120)};
            for (int k = 0; k < wrong.length; k++) {
                rows(c, "things", 0, 1, 2, 3, 4);
                c.text(wrong[k]);
                Check.refused(wrong[k], Check.ARGUMENT, () -> c.x.ask(0));
                Check.same("fault", c.x.fault(0), k + 1);
                Check.same("no rows", c.x.about(11), 0);
                Check.refused("no row", Check.ELEMENT, () -> c.x.answer(0, 0));
            }
        });
    }

    private static void promise41() {
        Document d = Document.promise(41);
        d.says("Of row k of the latest ask(): the thing (what = 0), the sort of its value (1): 0 a number, 1 a truth, 2 a thing, "
            + "3 null, 4 NOTHING; the value (2; a truth's 0 or 1, a thing's number, 0 of null and NOTHING).", c -> {
            QuestionTest.heap(c);
            String[] asked = {"-it.n", "it.n = 2", "it.n != 2", "it.a", "it.b", "it.zz", "it", "1 / 0"};
            long[][] due = {{0, -2}, {1, 1}, {1, 0}, {2, 0}, {3, 0}, {4, 0}, {2, 1}, {4, 0}};
            for (int k = 0; k < asked.length; k++) {
                c.ask(0, "own B get " + asked[k]);
                Check.same(asked[k] + " thing", c.x.answer(0, 0), 1);
                Check.same(asked[k] + " sort", c.x.answer(0, 1), due[k][0]);
                Check.same(asked[k] + " value", c.x.answer(0, 2), due[k][1]);
            }
            c.ask(0, "own A");
            c.x.take(0);
            c.text("true");
            c.x.promise();
            c.x.set(0, 3, 5);
            Check.same("the latest ask()", c.x.answer(1, 0), 3);
            Check.same("the latest ask()", c.x.answer(1, 1), 2);
            Check.same("the latest ask()", c.x.answer(1, 2), 3);
        });
        d.says("NoSuchElementException: none such, or for another what.", c -> {
            QuestionTest.heap(c);
            Check.refused("no ask() yet", Check.ELEMENT, () -> c.x.answer(0, 0));
            rows(c, "own A", 0, 3);
            int[][] none = {{2, 0}, {-1, 0}, {LEAST, 0}, {MOST, 0}, {0, 3}, {0, -1}, {0, LEAST}, {0, MOST}};
            for (int[] n : none) {
                Check.refused("answer " + n[0] + ", " + n[1], Check.ELEMENT, () -> c.x.answer(n[0], n[1]));
            }
            rows(c, "own Z");
            Check.refused("no row", Check.ELEMENT, () -> c.x.answer(0, 0));
        });
    }

    private static void promise45() {
        Document d = Document.promise(45);
        d.says("Of the latest of promise(), ask(), rules(), load(): its FAULT, 0 without (what = 0), its place (1; NONE without).",
            c -> {
            HeapWorks x = QuestionTest.heap(c);
            told(x, 0, -1);
            c.text("1 +");
            Check.refused("promise", Check.ARGUMENT, () -> x.promise());
            told(x, 1, 3);
            c.ask(0, "things");
            told(x, 0, -1);
            c.text("things get it.@");
            Check.refused("ask", Check.ARGUMENT, () -> x.ask(0));
            told(x, 2, 14);
            c.text("true");
            x.promise();
            told(x, 0, -1);
            c.text("p(x) if A : y;");
            Check.refused("rules", Check.ARGUMENT, () -> x.rules(0));
            told(x, 3, 13);
            x.bytes(0);
            x.load(1);
            told(x, 0, -1);
            x.cut(20);
            Check.refused("load", Check.ARGUMENT, () -> x.load(1));
            told(x, 1, 20);
            // others tell none, nor does what throws for another reason
            x.take(0);
            x.keep(0);
            x.reopen(5);
            Check.refused("p", Check.INDEX, () -> x.ask(4));
            Check.refused("p", Check.INDEX, () -> x.rules(4));
            Check.refused("p", Check.INDEX, () -> x.load(4));
            told(x, 1, 20);
            c.text("p(x) if A : x;");
            x.rules(0);
            told(x, 0, -1);
        });
        d.says("NONE for another what.", c -> {
            c.text("@");
            Check.refused("ask", Check.ARGUMENT, () -> c.x.ask(0));
            int[] whats = {-1, 2, LEAST, MOST};
            for (int what : whats) {
                Check.same("what " + what, c.x.fault(what), -1);
            }
        });
    }

    private static void told(HeapWorks x, int code, int place) {
        Check.same("fault", x.fault(0), code);
        Check.same("place", x.fault(1), place);
    }
}
