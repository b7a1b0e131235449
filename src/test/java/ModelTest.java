import java.lang.reflect.InvocationTargetException;
import java.lang.reflect.Method;
import java.util.ArrayList;
import java.util.Arrays;
import java.util.HashMap;
import java.util.List;
import java.util.Map;
import java.util.Random;

/** Random runs of calls on HeapWorks and on the plain Model of the document: every answer must be the same. */
public final class ModelTest {
    private static final Map<String, Method> WORKS = new HashMap<>();
    private static final Map<String, Method> MODEL = new HashMap<>();
    private static final String[] CLASS_NAMES = {"A", "B", "C", "D", "Node", "List", "x"};
    private static final String[] FIELD_NAMES = {"a", "b", "c", "next", "val", "x", "y", "to"};
    private static final String[] VARIABLES = {"x", "y", "z", "a", "it"};
    private static final String[] ODD = {"", "@", "!", "toolongname1", "1234567890123456789", "123456789012345678", "class",
        "it", ";", ",", ":", ".", "[", "]", "(", ")", "=", "!=", "<=", ">", "and", "or", "not", "is", "in", "where", "get",
        "if", "link", "thing", "things", "size", "count", "from", "-", "x", "7"};

    private final Random random;
    private final HeapWorks works = new HeapWorks();
    private final Model model = new Model();
    private final List<String> said = new ArrayList<>();
    private int calls;
    private static int wrong;
    private static final Map<String, Integer> SEEN = new HashMap<>();

    private ModelTest(long seed) {
        random = new Random(seed);
    }

    public static void main(String[] args) throws Exception {
        for (Method m : HeapWorks.class.getDeclaredMethods()) {
            if (java.lang.reflect.Modifier.isPublic(m.getModifiers())) {
                WORKS.put(m.getName(), m);
            }
        }
        for (Method m : Model.class.getDeclaredMethods()) {
            if (java.lang.reflect.Modifier.isPublic(m.getModifiers())) {
                m.setAccessible(true);
                MODEL.put(m.getName(), m);
            }
        }
        int runs = args.length > 0 ? Integer.parseInt(args[0]) : 1500;
        long first = args.length > 1 ? Long.parseLong(args[1]) : 1;
        for (int k = 0; k < runs && wrong < 5; k++) {
            ModelTest test = new ModelTest(first + k);
            test.run((int) ((first + k) % 6));
        }
        for (String name : WORKS.keySet()) {
            if (!SEEN.containsKey(name + " answers")) {
                System.out.println(name + " was never answered");
                wrong++;
            }
        }
        if (args.length > 2) {
            System.out.println(new java.util.TreeMap<>(SEEN));
        }
        System.out.println(wrong == 0 ? "the model answers the same in " + runs + " runs" : wrong + " wrong");
        if (wrong > 0) {
            System.exit(1);
        }
    }

    private static String outcome(Object on, Method m, Object[] args) throws Exception {
        try {
            Object got = m.invoke(on, args);
            return String.valueOf(got);
        } catch (InvocationTargetException e) {
            if (!(e.getCause() instanceof RuntimeException)) {
                throw e;
            }
            return "throws " + e.getCause().getClass().getName();
        }
    }

    // Calls both: whether it did not throw.
    private boolean call(String name, Object... args) throws Exception {
        calls++;
        Object[] fit = new Object[args.length];
        Class<?>[] types = WORKS.get(name).getParameterTypes();
        for (int k = 0; k < args.length; k++) {
            fit[k] = types[k] == long.class ? (Object) ((Number) args[k]).longValue() : args[k];
        }
        String want = outcome(model, MODEL.get(name), fit);
        String got = outcome(works, WORKS.get(name), fit);
        said.add(name + Arrays.toString(args) + " = " + want);
        SEEN.merge(name + (want.startsWith("throws") ? " " + want : " answers"), 1, Integer::sum);
        if (name.equals("fault") && args[0].equals(0)) {
            SEEN.merge("fault " + want + (model.faultPlace == -1 ? " nowhere" : ""), 1, Integer::sum);
        }
        if (!want.equals(got)) {
            wrong++;
            System.out.println("got " + got + ", but the model says:");
            for (int k = Math.max(0, said.size() - 60); k < said.size(); k++) {
                System.out.println("  " + said.get(k));
            }
            System.out.println("  tape: " + model.tapeText());
            throw new IllegalStateException("the model answers otherwise");
        }
        return !want.startsWith("throws");
    }

    private int upTo(int n) {
        return n <= 0 ? 0 : random.nextInt(n);
    }

    private boolean oneIn(int n) {
        return random.nextInt(n) == 0;
    }

    // A number below n, or rarely one that is not.
    private int near(int n) {
        if (oneIn(25)) {
            int[] odd = {-1, -2, n, n + 1, Integer.MAX_VALUE, Integer.MIN_VALUE, 100};
            return odd[upTo(odd.length)];
        }
        return upTo(n);
    }

    private static String pick(Random random, String[] from) {
        return from[random.nextInt(from.length)];
    }

    private void text(String s) throws Exception {
        byte[] b = new byte[s.length()];
        for (int k = 0; k < b.length; k++) {
            b[k] = (byte) s.charAt(k);
        }
        call("wipe");
        for (int at = 0; at < b.length; at += 20) {
            int[] words = new int[5];
            for (int k = 0; k < 20 && at + k < b.length; k++) {
                words[k / 4] |= (b[at + k] & 255) << (24 - k % 4 * 8);
            }
            call("feed", words[0], words[1], words[2], words[3], words[4]);
            call("end", Math.min(20, b.length - at));
        }
    }

    private int anyType() {
        int classes = model.classes.size();
        switch (upTo(8)) {
            case 0: return 20 + upTo(5);
            case 1: return 29;
            case 2: return 30 + near(classes);
            default: return near(classes);
        }
    }

    private void someClass() throws Exception {
        text(oneIn(20) ? pick(random, ODD) : pick(random, CLASS_NAMES));
        call("type", model.classes.isEmpty() || oneIn(2) ? -1 : near(model.classes.size()), oneIn(3) ? near(4) : 0);
        int fields = upTo(5);
        for (int k = 0; k < fields; k++) {
            text(oneIn(30) ? pick(random, ODD) : pick(random, FIELD_NAMES));
            int kind = oneIn(2) ? 5 : near(6);
            int type = oneIn(4) ? near(model.classes.size()) : model.classes.size() - 1;
            call("field", type, kind, oneIn(2) ? -1 : anyType(), oneIn(5));
        }
    }

    private long someValue(int kind) {
        switch (upTo(kind == 5 ? 12 : 6)) {
            case 0: return near(3);
            case 1: return random.nextLong() >> upTo(64);
            case 2: return -1;
            case 3: return new long[] {127, 128, -128, -129, 32767, 32768, -32768, -32769, 2147483647L, 2147483648L,
                -2147483648L, -2147483649L, Long.MAX_VALUE, Long.MIN_VALUE}[upTo(14)];
            default: return kind == 5 ? near(model.objects.size()) : upTo(3);
        }
    }

    private void someWrite() throws Exception {
        if (oneIn(8)) {
            int c = near(model.classes.size());
            call("setStatic", c, near(2), someValue(oneIn(2) ? 5 : 0));
            return;
        }
        int o = near(model.objects.size());
        if (!model.isThere(o)) {
            call("set", o, 0, 0);
            return;
        }
        Model.Obj x = model.objects.get(o);
        int slot = near(x.v.length);
        int kind = slot >= 0 && slot < x.v.length ? model.kindAt(x.type, slot) : 0;
        long v = someValue(kind);
        // Links are made rather often where they fit.
        for (int k = 0; k < 6 && kind == 5 && !model.isValue(5, model.linkAt(x.type, slot), v); k++) {
            v = near(model.objects.size());
        }
        call("set", o, slot, v);
    }

    private void someHeapCall() throws Exception {
        int n = model.objects.size();
        int c = model.classes.size();
        switch (upTo(24)) {
            case 0: call("root", near(n), !oneIn(4)); break;
            case 1: call("copy", near(n), near(3)); break;
            case 2: call("swap", near(n), near(n)); break;
            case 3: call("undo"); break;
            case 4: call("apart", near(c), !oneIn(3)); break;
            case 5: call("watch", near(c), near(4), near(4)); break;
            case 6: call("typeLook", near(c), near(8)); break;
            case 7: call("fieldLook", near(c), near(4), near(5)); break;
            case 8: call("object", near(n), near(3)); break;
            case 9: call("get", near(n), near(3)); break;
            case 10: call("getStatic", near(c), near(2)); break;
            case 11: call("make", anyType(), near(5)); break;
            case 12: call("about", near(13)); break;
            case 13: call("rows", near(model.watches.size())); break;
            case 14: call("row", near(model.watches.size()), near(6), near(4)); break;
            case 15: call("broken", near(model.promises.size())); break;
            case 16:
                if (oneIn(4)) {
                    call("collect");
                }
                break;
            default: someWrite(); break;
        }
    }

    private void somePictureCall() throws Exception {
        int p = near(4);
        int n = p >= 0 && p < 4 ? model.pics[p].things.size() : 3;
        int q = near(4);
        int m = q >= 0 && q < 4 ? model.pics[q].things.size() : 3;
        switch (upTo(14)) {
            case 0: call("take", p); break;
            case 1: call("slot", p, near(n), near(4)); break;
            case 2: call("holder", p, near(n), near(3), near(2)); break;
            case 3: call("picture", p, oneIn(3) ? (oneIn(2) ? 100 : 200) + near(model.classes.size()) : near(6)); break;
            case 4: call("member", p, near(2), near(2), near(3)); break;
            case 5: call("choose", p, near(n), !oneIn(3)); break;
            case 6: call("lost", p); break;
            case 7: call("lostThing", p, near(4)); break;
            case 8: call("growth", p, q, near(3)); break;
            case 9: call("grown", near(4)); break;
            case 10: call("like", p, near(n), q, near(m)); break;
            case 11: call("like", p, near(n), p, near(n)); break;
            default: call("thing", p, near(n), near(13)); break;
        }
    }

    // ---- texts

    private String atom(int deep) {
        switch (upTo(deep <= 0 ? 7 : 14)) {
            case 0: return String.valueOf(upTo(12));
            case 1: return oneIn(3) ? "null" : oneIn(2) ? "true" : "false";
            case 2: return "thing " + upTo(6);
            case 3: case 4: case 5: case 6: return oneIn(40) ? pick(random, ODD) : pick(random, VARIABLES);
            case 7: return "(" + e(deep - 1) + ")";
            case 8: return pick(random, new String[] {"size ", "kept ", "depth ", "length "}) + p(deep - 1);
            default: return fold(deep - 1);
        }
    }

    private String p(int deep) {
        StringBuilder s = new StringBuilder(atom(deep));
        while (oneIn(2)) {
            if (oneIn(5) && deep > 0) {
                s.append('[').append(e(deep - 1)).append(']');
            } else {
                s.append('.').append(pick(random, FIELD_NAMES));
            }
        }
        return s.toString();
    }

    private String set(int deep) {
        switch (upTo(6)) {
            case 0: return "all " + pick(random, CLASS_NAMES);
            case 1: return "own " + pick(random, CLASS_NAMES);
            case 2: return "things";
            case 3: return "slots " + p(deep - 1);
            case 4: return "held " + p(deep - 1);
            default: return "from " + p(deep - 1);
        }
    }

    private String fold(int deep) {
        String kind = pick(random, new String[] {"count", "sum", "most", "least", "some", "each"});
        String where = oneIn(3) ? " where " + e(deep - 1) : "";
        String of = kind.equals("count") ? "" : " : " + e(deep - 1);
        return kind + "(" + pick(random, new String[] {"x", "y", "z"}) + " in " + set(deep) + where + of + ")";
    }

    private String e(int deep) {
        if (deep <= 0) {
            return p(0);
        }
        switch (upTo(9)) {
            case 0: return e(deep - 1) + " or " + e(deep - 1);
            case 1: return e(deep - 1) + " and " + e(deep - 1);
            case 2: return "not " + e(deep - 1);
            case 3: return p(deep) + pick(random, new String[] {"=", " != ", "<", "<=", ">", " >="}) + p(deep - 1);
            case 4: return p(deep) + " is " + pick(random, CLASS_NAMES);
            case 5: return p(deep) + pick(random, new String[] {"+", "-", " * ", "/", "% "}) + p(deep);
            case 6: return "-" + p(deep);
            default: return p(deep);
        }
    }

    private String question() {
        String s = set(2);
        s += oneIn(2) ? " where " + e(3) : "";
        s += oneIn(2) ? " get " + e(3) : "";
        return s;
    }

    private String spoiled(String s) {
        int at = upTo(s.length() + 1);
        switch (upTo(4)) {
            case 0: return s.substring(0, at);
            case 1: return s.substring(0, at) + pick(random, ODD) + s.substring(at);
            case 2: return s.substring(0, at) + (char) upTo(256) + s.substring(Math.min(s.length(), at + 1));
            default: return s.substring(0, at) + s.substring(Math.min(s.length(), at + 1 + upTo(6)));
        }
    }

    // A text whose variables are mostly known: the unknown ones make faults often enough without that.
    private String known(String s) {
        return oneIn(4) ? s : s.replaceAll("\\b(x|y|z|a)\\b(?!\\s+in\\b)(?<!\\.[xyza])(?<!(all|own|is) [xyza])", "it");
    }

    private void someQuestion() throws Exception {
        String s = known(question());
        text(oneIn(4) ? spoiled(s) : s);
        if (call("ask", near(4))) {
            int rows = model.rowsOfAsk.size();
            for (int k = 0; k < Math.min(rows, 4); k++) {
                int row = upTo(rows);
                call("answer", row, 0);
                call("answer", row, 1);
                call("answer", row, 2);
            }
            call("answer", near(3), near(3));
        }
        call("fault", 0);
        call("fault", 1);
    }

    private void somePromise() throws Exception {
        String s = oneIn(2) ? "each(x in things : " + known(e(2)).replace("it", "x") + ")" : e(3);
        text(oneIn(5) ? spoiled(s) : s);
        call("promise");
        call("fault", 0);
        call("fault", 1);
        if (!model.promises.isEmpty()) {
            call("broken", model.promises.size() - 1);
        }
    }

    private String relation() {
        String name = pick(random, new String[] {"p", "q", "r", "s2", "t2"});
        boolean two = name.endsWith("2") != oneIn(60);
        return name + "(" + variable() + (two ? "," + variable() : "") + ")";
    }

    private String variable() {
        return pick(random, oneIn(40) ? new String[] {"w", "link", "if", "it"} : new String[] {"u", "v"});
    }

    private String part() {
        switch (upTo(5)) {
            case 0: return "link(" + variable() + ", " + variable() + ")";
            case 1: return pick(random, CLASS_NAMES) + " : " + variable();
            case 2: return variable() + (oneIn(2) ? " = " : "!=") + variable();
            default: return relation();
        }
    }

    private void someRules() throws Exception {
        StringBuilder s = new StringBuilder();
        int rules = upTo(oneIn(10) ? 14 : 5);
        for (int k = 0; k < rules; k++) {
            s.append(relation()).append(" if ").append(oneIn(2) ? "link(u,v)" : part());
            for (int j = upTo(oneIn(30) ? 5 : 3); j > 0; j--) {
                s.append(" , ").append(part());
            }
            s.append(oneIn(2) ? ", link(v, u) ;" : ";\n");
        }
        text(oneIn(4) ? spoiled(s.toString()) : s.toString());
        if (call("rules", near(4))) {
            for (int k = 0; k < 3; k++) {
                call("isFact", near(model.relations.size()), near(5), near(5));
            }
        }
        call("facts", near(model.relations.size()));
        call("fault", 0);
        call("fault", 1);
        call("about", 12);
    }

    private void someBytes() throws Exception {
        if (oneIn(2) && call("keep", near(4))) {
            call("about", 8);
        }
        if (oneIn(4)) {
            call("reopen", oneIn(3) ? -1 + upTo(3) : upTo(model.log.size() + 3));
            call("about", 8);
        }
        if (oneIn(2)) {
            call("recall", near(4), near(model.records));
        }
        if (!call("bytes", near(4))) {
            return;
        }
        call("letter", near(model.tape.size()));
        if (oneIn(3)) {
            call("flip", near(model.tape.size()), near(8));
        } else if (oneIn(2)) {
            text(checked(model.tape));
        }
        if (oneIn(8)) {
            call("cut", upTo(model.tape.size() + 1));
        }
        call("load", near(4));
        call("fault", 0);
        call("fault", 1);
    }

    // Bytes that were changed somewhere, with a check that is right.
    private String checked(List<Integer> bytes) {
        List<Integer> all = new ArrayList<>(bytes.subList(0, bytes.size() - 4));
        for (int k = upTo(3); k > 0; k--) {
            int at = 2 + upTo(all.size() - 2);
            switch (upTo(4)) {
                case 0: all.set(at, all.get(at) ^ 1 << upTo(8)); break;
                case 1: all.add(at, upTo(5)); break;
                case 2:
                    if (all.size() > 4) {
                        all.remove(at);
                    }
                    break;
                default: all.set(at, upTo(4)); break;
            }
        }
        int h = Model.check(all);
        for (int k = 0; k < 4; k++) {
            all.add(h >> 8 * k & 255);
        }
        for (int k = oneIn(6) ? 1 + upTo(3) : 0; k > 0; k--) {
            all.add(upTo(256));
        }
        StringBuilder s = new StringBuilder();
        for (int b : all) {
            s.append((char) b);
        }
        return s.toString();
    }

    private void audit() throws Exception {
        for (int k = 0; k < 13; k++) {
            call("about", k);
        }
        int p = upTo(4);
        Model.Pic pic = model.pics[p];
        for (int k = 0; k < 6; k++) {
            call("picture", p, k);
        }
        for (int t = 0; t < Math.min(10, pic.things.size()); t++) {
            int what = upTo(13);
            call("thing", p, t, what);
            call("thing", p, t, 8);
        }
    }

    // A class whose objects link to any others, so that graphs get dense.
    private void denseClass() throws Exception {
        text("Node");
        call("type", -1, 0);
        int links = 1 + upTo(4);
        for (int k = 0; k < links; k++) {
            text(FIELD_NAMES[k]);
            call("field", 0, 5, -1, false);
        }
        text("val");
        call("field", 0, 3, -1, oneIn(4));
    }

    private void run(int way) throws Exception {
        if (oneIn(2)) {
            denseClass();
        }
        int classes = (model.classes.isEmpty() ? 1 : 0) + upTo(5);
        for (int k = 0; k < classes; k++) {
            someClass();
        }
        int objects = oneIn(12) ? 45 : 1 + upTo(12);
        for (int k = 0; k < objects; k++) {
            call("make", oneIn(3) ? anyType() : oneIn(2) ? 0 : upTo(model.classes.size()), near(5));
        }
        for (int k = 0; k < 3; k++) {
            call("root", near(model.objects.size()), true);
        }
        for (int k = 0; k < 2 * objects; k++) {
            someWrite();
        }
        call("take", 0);
        while (calls < 480) {
            int which = upTo(10);
            if (which < 2 && way != 5) {
                someHeapCall();
            } else if (which == 2) {
                somePictureCall();
            } else if (which == 3 && oneIn(4)) {
                call("take", upTo(4));
            } else if (way == 0 || which == 4 && oneIn(3)) {
                someQuestion();
            } else if (way == 1 && oneIn(2)) {
                somePromise();
            } else if (way == 2) {
                someRules();
            } else if (way == 3) {
                someBytes();
            } else if (which == 5 && oneIn(10)) {
                audit();
            } else if (oneIn(2)) {
                someHeapCall();
            } else {
                somePictureCall();
            }
        }
        audit();
        SEEN.merge("things " + model.pics[0].things.size() / 4 * 4, 1, Integer::sum);
        SEEN.merge("rings " + model.rings(model.pics[0]).size(), 1, Integer::sum);
        SEEN.merge("doubles " + model.doubles(model.pics[0]).size(), 1, Integer::sum);
    }
}
