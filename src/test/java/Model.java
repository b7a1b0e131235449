import java.util.ArrayList;
import java.util.Arrays;
import java.util.HashMap;
import java.util.HashSet;
import java.util.LinkedHashMap;
import java.util.List;
import java.util.Map;
import java.util.NoSuchElementException;
import java.util.Set;

/**
 * The document once more, in the plainest way that can be thought of and with the whole Java library: what HeapWorks
 * answers is compared with it in random runs. Nothing here is made to be quick.
 */
final class Model {
    static final int NONE = -1;
    static final Set<String> KEYWORDS = new HashSet<>(Arrays.asList(("all own things thing where get and or not null true "
        + "false is in count sum most least some each size kept depth length class slots held from it").split(" ")));

    static final class Fault extends RuntimeException {
        final int code;
        final int place;

        Fault(int code, int place) {
            super("fault " + code + " at " + place, null, false, false);
            this.code = code;
            this.place = place;
        }
    }

    static final class Fld {
        String name;
        int kind;
        int link;
        boolean isStatic;
        long value;
    }

    static final class Cls {
        String name;
        int loader;
        int parent;
        boolean used;
        boolean apart;
        List<Fld> fields = new ArrayList<>();
    }

    static final class Obj {
        int type;
        int length;
        boolean gone;
        long[] v;
    }

    static final class Undo {
        int write;
        Obj object;
        int slot;
        Fld field;
        long before;
    }

    static final class Watch {
        int type;
        int k;
        int condition;
        List<long[]> rows = new ArrayList<>();
    }

    static final class Thing {
        int object;
        int type;
        int length;
        long[] v;
        int depth;
        int wayThing;
        int waySlot;
    }

    static final class Pic {
        List<Thing> things = new ArrayList<>();
        List<int[]> roots = new ArrayList<>();
        Set<Integer> chosen = new HashSet<>();
        List<Integer> lost = new ArrayList<>();
    }

    List<Integer> tape = new ArrayList<>();
    int[] ready = new int[20];
    List<Cls> classes = new ArrayList<>();
    List<Obj> objects = new ArrayList<>();
    List<Integer> roots = new ArrayList<>();
    int writes;
    List<Undo> undos = new ArrayList<>();
    List<Watch> watches = new ArrayList<>();
    List<Node> promises = new ArrayList<>();
    List<Integer> brokenBy = new ArrayList<>();
    Pic[] pics = {new Pic(), new Pic(), new Pic(), new Pic()};
    List<Integer> grownList = new ArrayList<>();
    List<long[]> rowsOfAsk = new ArrayList<>();
    int faultCode;
    int faultPlace = NONE;
    LinkedHashMap<String, Set<List<Integer>>> relations = new LinkedHashMap<>();
    Map<String, Integer> arities = new HashMap<>();
    List<Integer> log = new ArrayList<>();
    int records;

    // ---- tape

    public void feed(int a, int b, int c, int d, int e) {
        int[] all = {a, b, c, d, e};
        for (int k = 0; k < 20; k++) {
            ready[k] = all[k / 4] >> (24 - k % 4 * 8) & 0xFF;
        }
    }

    public int end(int n) {
        if (n < 0 || n > 20 || tape.size() + n > 4000) {
            return NONE;
        }
        for (int k = 0; k < n; k++) {
            tape.add(ready[k]);
        }
        ready = new int[20];
        return tape.size();
    }

    public void wipe() {
        tape.clear();
    }

    public boolean flip(int i, int bit) {
        if (i < 0 || i >= tape.size() || bit < 0 || bit > 7) {
            return false;
        }
        tape.set(i, tape.get(i) ^ (1 << bit));
        return true;
    }

    public boolean cut(int n) {
        if (n < 0 || n > tape.size()) {
            return false;
        }
        tape = new ArrayList<>(tape.subList(0, n));
        return true;
    }

    public int letter(int i) {
        return i < 0 || i >= tape.size() ? NONE : tape.get(i);
    }

    String tapeText() {
        StringBuilder s = new StringBuilder();
        for (int b : tape) {
            s.append((char) b);
        }
        return s.toString();
    }

    static boolean isName(String s) {
        return s.matches("[A-Za-z][A-Za-z0-9]{0,9}") && !KEYWORDS.contains(s);
    }

    // ---- classes

    boolean isClass(int c) {
        return c >= 0 && c < classes.size();
    }

    boolean isType(int t) {
        return isClass(t) || t >= 20 && t <= 24 || t == 29 || t >= 30 && isClass(t - 30);
    }

    boolean is(int c, int d) {
        return c == d || c != NONE && is(classes.get(c).parent, d);
    }

    boolean isNamed(int type, String name) {
        if (type == NONE || type >= 20) {
            return false;
        }
        return classes.get(type).name.equals(name) || isNamed(classes.get(type).parent, name);
    }

    boolean fits(int type, int wanted) {
        if (wanted == NONE) {
            return true;
        }
        if (type < 20) {
            return wanted < 20 && is(type, wanted);
        }
        if (type == wanted) {
            return true;
        }
        return type >= 30 && (wanted == 29 || wanted >= 30 && is(type - 30, wanted - 30));
    }

    List<Fld> slotFields(int c) {
        List<Fld> all = c == NONE ? new ArrayList<>() : slotFields(classes.get(c).parent);
        if (c != NONE) {
            for (Fld f : classes.get(c).fields) {
                if (!f.isStatic) {
                    all.add(f);
                }
            }
        }
        return all;
    }

    int slotCount(int type, int length) {
        return type >= 20 ? length : slotFields(type).size();
    }

    int kindAt(int type, int slot) {
        return type >= 29 ? 5 : type >= 20 ? type - 20 : slotFields(type).get(slot).kind;
    }

    int linkAt(int type, int slot) {
        return type >= 30 ? type - 30 : type >= 20 ? NONE : slotFields(type).get(slot).link;
    }

    static int width(int kind) {
        return new int[] {1, 1, 2, 4, 8, 4}[kind];
    }

    // The layout of a class: field to first byte; null to the end of the fields.
    Map<Fld, Integer> layout(int c) {
        Map<Fld, Integer> places = new HashMap<>();
        int end = classes.get(c).parent == NONE ? 12 : layout(classes.get(c).parent).get(null);
        List<Fld> own = new ArrayList<>();
        for (Fld f : classes.get(c).fields) {
            if (!f.isStatic) {
                own.add(f);
            }
        }
        own.sort((f, g) -> width(g.kind) - width(f.kind));
        for (Fld f : own) {
            while (end % width(f.kind) != 0) {
                end++;
            }
            places.put(f, end);
            end += width(f.kind);
        }
        places.put(null, end);
        return places;
    }

    int sizeOf(int type, int length) {
        int end = type < 20 ? layout(type).get(null) : 16 + length * width(kindAt(type, 0));
        while (end % 8 != 0) {
            end++;
        }
        return end;
    }

    public int type(int parent, int loader) {
        if (parent != NONE && !isClass(parent) || loader < 0 || loader > 3) {
            throw new IndexOutOfBoundsException();
        }
        String name = tapeText();
        if (!isName(name)) {
            throw new IllegalArgumentException();
        }
        for (Cls c : classes) {
            if (c.loader == loader && c.name.equals(name)) {
                throw new IllegalStateException();
            }
        }
        if (classes.size() >= 16) {
            throw new IllegalStateException();
        }
        Cls c = new Cls();
        c.name = name;
        c.loader = loader;
        c.parent = parent;
        if (parent != NONE) {
            classes.get(parent).used = true;
        }
        classes.add(c);
        tape.clear();
        return classes.size() - 1;
    }

    public int field(int type, int kind, int link, boolean isStatic) {
        if (!isClass(type)) {
            throw new IndexOutOfBoundsException();
        }
        String name = tapeText();
        if (!isName(name) || kind < 0 || kind > 5 || kind == 5 && link != NONE && !isType(link)) {
            throw new IllegalArgumentException();
        }
        Cls c = classes.get(type);
        for (Fld f : c.fields) {
            if (f.name.equals(name)) {
                throw new IllegalStateException();
            }
        }
        if (c.used || c.fields.size() >= 6) {
            throw new IllegalStateException();
        }
        Fld f = new Fld();
        f.name = name;
        f.kind = kind;
        f.link = kind == 5 ? link : NONE;
        f.isStatic = isStatic;
        f.value = kind == 5 ? NONE : 0;
        c.fields.add(f);
        tape.clear();
        return c.fields.size() - 1;
    }

    List<Fld> statics(int c) {
        List<Fld> all = new ArrayList<>();
        for (Fld f : classes.get(c).fields) {
            if (f.isStatic) {
                all.add(f);
            }
        }
        return all;
    }

    public int typeLook(int type, int what) {
        if (!isClass(type)) {
            return NONE;
        }
        Cls c = classes.get(type);
        int here = 0;
        for (Obj o : objects) {
            here += !o.gone && o.type == type ? 1 : 0;
        }
        int[] looks = {c.parent, c.loader, c.fields.size(), slotFields(type).size(), sizeOf(type, 0), c.used ? 1 : 0,
            statics(type).size(), here};
        return what >= 0 && what < looks.length ? looks[what] : NONE;
    }

    public int fieldLook(int type, int k, int what) {
        if (!isClass(type) || k < 0 || k >= classes.get(type).fields.size() || what < 0 || what > 4) {
            return NONE;
        }
        Fld f = classes.get(type).fields.get(k);
        int place = f.isStatic ? statics(type).indexOf(f) : slotFields(type).indexOf(f);
        int first = f.isStatic ? NONE : layout(type).get(f);
        return new int[] {f.kind, f.link, f.isStatic ? 1 : 0, place, first}[what];
    }

    // ---- heap

    boolean isThere(long o) {
        return o >= 0 && o < objects.size() && !objects.get((int) o).gone;
    }

    int thereCount() {
        int n = 0;
        for (Obj o : objects) {
            n += o.gone ? 0 : 1;
        }
        return n;
    }

    int allSlots() {
        int n = 0;
        for (Obj o : objects) {
            n += o.gone ? 0 : o.v.length;
        }
        return n;
    }

    int add(int type, int length) {
        Obj o = new Obj();
        o.type = type;
        o.length = length;
        o.v = new long[slotCount(type, length)];
        for (int k = 0; k < o.v.length; k++) {
            o.v[k] = kindAt(type, k) == 5 ? NONE : 0;
        }
        objects.add(o);
        for (int c = type; c != NONE && c < 20; c = classes.get(c).parent) {
            classes.get(c).used = true;
        }
        return objects.size() - 1;
    }

    public int make(int type, int length) {
        if (!isType(type) || type >= 20 && (length < 0 || length > 60)) {
            throw new IllegalArgumentException();
        }
        int l = type >= 20 ? length : 0;
        if (objects.size() >= 400 || allSlots() + slotCount(type, l) > 4000) {
            throw new IllegalStateException();
        }
        return add(type, l);
    }

    public void root(int object, boolean on) {
        if (!isThere(object)) {
            throw new NoSuchElementException();
        }
        if (!on) {
            roots.remove(Integer.valueOf(object));
        } else if (!roots.contains(object)) {
            if (roots.size() >= 12) {
                throw new IllegalStateException();
            }
            roots.add(object);
        }
    }

    boolean isValue(int kind, int link, long v) {
        switch (kind) {
            case 0: return v == 0 || v == 1;
            case 1: return v == (byte) v;
            case 2: return v == (short) v;
            case 3: return v == (int) v;
            case 4: return true;
            default: return v == NONE || isThere(v) && fits(objects.get((int) v).type, link);
        }
    }

    void watchWrite(int object, Fld f, long before, long after) {
        for (Watch w : watches) {
            if (classes.get(w.type).fields.get(w.k) != f) {
                continue;
            }
            boolean link = f.kind == 5;
            long empty = link ? NONE : 0;
            boolean hit = w.condition == 0 || w.condition == 1 && before != after
                || w.condition == 2 && before != empty && after == empty
                || w.condition == 3 && (link ? before == NONE && after != NONE : after > before);
            if (hit) {
                w.rows.add(new long[] {writes, object, before, after});
                if (w.rows.size() > 6) {
                    w.rows.remove(0);
                }
            }
        }
    }

    void keepUndo(Obj o, int slot, Fld f, long before) {
        Undo u = new Undo();
        u.write = writes;
        u.object = o;
        u.slot = slot;
        u.field = f;
        u.before = before;
        undos.add(u);
        if (undos.size() > 100) {
            undos.remove(0);
        }
    }

    int write(int object, int slot, long value) {
        Obj o = objects.get(object);
        keepUndo(o, slot, null, o.v[slot]);
        if (o.type < 20) {
            watchWrite(object, slotFields(o.type).get(slot), o.v[slot], value);
        }
        o.v[slot] = value;
        return writes++;
    }

    int writeStatic(Fld f, long value) {
        keepUndo(null, 0, f, f.value);
        watchWrite(NONE, f, f.value, value);
        f.value = value;
        return writes++;
    }

    void checkPromises(int write) {
        for (int k = 0; k < promises.size(); k++) {
            if (brokenBy.get(k) == -2 && !holds(promises.get(k))) {
                brokenBy.set(k, write);
            }
        }
    }

    public int set(int object, int slot, long value) {
        if (!isThere(object) || slot < 0 || slot >= objects.get(object).v.length) {
            throw new NoSuchElementException();
        }
        int type = objects.get(object).type;
        if (!isValue(kindAt(type, slot), linkAt(type, slot), value)) {
            throw new IllegalArgumentException();
        }
        int w = write(object, slot, value);
        checkPromises(w);
        return w;
    }

    Fld staticAt(int type, int k) {
        if (!isClass(type) || k < 0 || k >= statics(type).size()) {
            throw new NoSuchElementException();
        }
        return statics(type).get(k);
    }

    public int setStatic(int type, int k, long value) {
        Fld f = staticAt(type, k);
        if (!isValue(f.kind, f.link, value)) {
            throw new IllegalArgumentException();
        }
        int w = writeStatic(f, value);
        checkPromises(w);
        return w;
    }

    public long get(int object, int slot) {
        if (!isThere(object) || slot < 0 || slot >= objects.get(object).v.length) {
            throw new NoSuchElementException();
        }
        return objects.get(object).v[slot];
    }

    public long getStatic(int type, int k) {
        return staticAt(type, k).value;
    }

    public int object(int object, int what) {
        if (!isThere(object)) {
            return NONE;
        }
        Obj o = objects.get(object);
        return what == 0 ? o.type : what == 1 ? o.length : what == 2 ? sizeOf(o.type, o.length) : NONE;
    }

    // Each root's number and object (NONE for null ones), told ones first.
    List<int[]> allRoots() {
        List<int[]> all = new ArrayList<>();
        for (int o : roots) {
            all.add(new int[] {all.size(), o});
        }
        for (Cls c : classes) {
            for (Fld f : c.fields) {
                if (f.isStatic && f.kind == 5) {
                    all.add(new int[] {all.size(), (int) f.value});
                }
            }
        }
        return all;
    }

    public int collect() {
        undos.clear();
        Set<Integer> reached = new HashSet<>();
        for (Thing t : picture().things) {
            reached.add(t.object);
        }
        int n = 0;
        for (int o = 0; o < objects.size(); o++) {
            if (!objects.get(o).gone && !reached.contains(o)) {
                objects.get(o).gone = true;
                n++;
            }
        }
        return n;
    }

    public int undo() {
        if (undos.isEmpty()) {
            return NONE;
        }
        Undo u = undos.remove(undos.size() - 1);
        if (u.field != null) {
            u.field.value = u.before;
        } else {
            u.object.v[u.slot] = u.before;
        }
        return u.write;
    }

    public int swap(int a, int b) {
        if (!isThere(a) || !isThere(b)) {
            throw new NoSuchElementException();
        }
        if (a == b) {
            throw new IllegalArgumentException();
        }
        int count = 0;
        for (int pass = 0; pass < 2; pass++) {
            for (int o = 0; o < objects.size(); o++) {
                Obj x = objects.get(o);
                for (int k = 0; !x.gone && k < x.v.length; k++) {
                    if (kindAt(x.type, k) == 5 && (x.v[k] == a || x.v[k] == b)) {
                        int other = x.v[k] == a ? b : a;
                        if (!fits(objects.get(other).type, linkAt(x.type, k))) {
                            throw new IllegalArgumentException();
                        }
                        if (pass == 1) {
                            write(o, k, other);
                            count++;
                        }
                    }
                }
            }
            for (Cls c : classes) {
                for (Fld f : c.fields) {
                    if (f.isStatic && f.kind == 5 && (f.value == a || f.value == b)) {
                        int other = f.value == a ? b : a;
                        if (!fits(objects.get(other).type, f.link)) {
                            throw new IllegalArgumentException();
                        }
                        if (pass == 1) {
                            writeStatic(f, other);
                            count++;
                        }
                    }
                }
            }
        }
        roots.replaceAll(o -> o == a ? b : o == b ? a : o);
        if (count > 0) {
            checkPromises(writes - 1);
        }
        return count;
    }

    boolean isApart(int type) {
        return type != NONE && type < 20 && (classes.get(type).apart || isApart(classes.get(type).parent));
    }

    public int copy(int object, int way) {
        if (!isThere(object)) {
            throw new NoSuchElementException();
        }
        if (way < 0 || way > 2) {
            throw new IllegalArgumentException();
        }
        List<Integer> order = new ArrayList<>();
        order.add(object);
        for (int k = 0; k < order.size() && way > 0; k++) {
            Obj o = objects.get(order.get(k));
            for (int s = 0; s < o.v.length; s++) {
                int to = (int) o.v[s];
                if (kindAt(o.type, s) == 5 && to != NONE && !order.contains(to)
                    && !(way == 2 && isApart(objects.get(to).type))) {
                    order.add(to);
                }
            }
        }
        int slots = 0;
        for (int o : order) {
            slots += objects.get(o).v.length;
        }
        if (objects.size() + order.size() > 400 || allSlots() + slots > 4000) {
            throw new IllegalStateException();
        }
        int base = objects.size();
        for (int o : order) {
            add(objects.get(o).type, objects.get(o).length);
        }
        for (int k = 0; k < order.size(); k++) {
            Obj from = objects.get(order.get(k));
            for (int s = 0; s < from.v.length; s++) {
                boolean copied = kindAt(from.type, s) == 5 && order.contains((int) from.v[s]);
                objects.get(base + k).v[s] = copied ? base + order.indexOf((int) from.v[s]) : from.v[s];
            }
        }
        return base;
    }

    public boolean apart(int type, boolean on) {
        if (!isClass(type)) {
            return false;
        }
        classes.get(type).apart = on;
        return true;
    }

    // ---- watches, promises

    public int watch(int type, int k, int condition) {
        if (!isClass(type) || k < 0 || k >= classes.get(type).fields.size()) {
            throw new NoSuchElementException();
        }
        if (condition < 0 || condition > 3) {
            throw new IllegalArgumentException();
        }
        if (watches.size() >= 6) {
            throw new IllegalStateException();
        }
        Watch w = new Watch();
        w.type = type;
        w.k = k;
        w.condition = condition;
        watches.add(w);
        return watches.size() - 1;
    }

    public int rows(int watch) {
        return watch < 0 || watch >= watches.size() ? NONE : watches.get(watch).rows.size();
    }

    public long row(int watch, int k, int what) {
        if (watch < 0 || watch >= watches.size() || k < 0 || k >= watches.get(watch).rows.size() || what < 0
            || what > 3) {
            throw new NoSuchElementException();
        }
        return watches.get(watch).rows.get(k)[what];
    }

    boolean holds(Node e) {
        try {
            Run run = new Run(picture());
            Val v = e.eval(run);
            return v.sort == 1 && v.v == 1;
        } catch (Fault spent) {
            return false;
        }
    }

    void tell(Fault f) {
        faultCode = f == null ? 0 : f.code;
        faultPlace = f == null ? NONE : f.place;
    }

    public int promise() {
        if (promises.size() >= 3) {
            throw new IllegalStateException();
        }
        Node e;
        try {
            Reader r = new Reader(tapeText());
            e = r.readE();
            r.need("");
            tell(null);
        } catch (Fault f) {
            tell(f);
            throw new IllegalArgumentException();
        }
        promises.add(e);
        brokenBy.add(holds(e) ? -2 : NONE);
        return promises.size() - 1;
    }

    public int broken(int promise) {
        if (promise < 0 || promise >= promises.size()) {
            throw new NoSuchElementException();
        }
        return brokenBy.get(promise);
    }

    // ---- pictures

    Pic picture() {
        Pic p = new Pic();
        Map<Integer, Integer> met = new HashMap<>();
        for (int[] r : allRoots()) {
            if (r[1] != NONE) {
                p.roots.add(new int[] {r[0], meet(p, met, r[1], NONE, r[0])});
            }
        }
        for (int t = 0; t < p.things.size(); t++) {
            Thing x = p.things.get(t);
            for (int k = 0; k < x.v.length; k++) {
                if (kindAt(x.type, k) == 5 && x.v[k] != NONE) {
                    x.v[k] = meet(p, met, (int) x.v[k], t, k);
                }
            }
        }
        return p;
    }

    int meet(Pic p, Map<Integer, Integer> met, int o, int from, int slot) {
        if (!met.containsKey(o)) {
            Thing t = new Thing();
            t.object = o;
            t.type = objects.get(o).type;
            t.length = objects.get(o).length;
            t.v = objects.get(o).v.clone();
            t.wayThing = from;
            t.waySlot = slot;
            t.depth = from == NONE ? 0 : p.things.get(from).depth + 1;
            met.put(o, p.things.size());
            p.things.add(t);
        }
        return met.get(o);
    }

    static Pic at(Pic[] pics, int p) {
        if (p < 0 || p > 3) {
            throw new IndexOutOfBoundsException();
        }
        return pics[p];
    }

    public int take(int p) {
        at(pics, p);
        pics[p] = picture();
        return pics[p].things.size();
    }

    List<Integer> links(Pic p, int t) {
        List<Integer> all = new ArrayList<>();
        Thing x = p.things.get(t);
        for (int k = 0; k < x.v.length; k++) {
            if (kindAt(x.type, k) == 5 && x.v[k] != NONE) {
                all.add((int) x.v[k]);
            }
        }
        return all;
    }

    List<int[]> holders(Pic p, int t) {
        List<int[]> all = new ArrayList<>();
        for (int[] r : p.roots) {
            if (r[1] == t) {
                all.add(new int[] {NONE, r[0]});
            }
        }
        for (int u = 0; u < p.things.size(); u++) {
            Thing x = p.things.get(u);
            for (int k = 0; k < x.v.length; k++) {
                if (kindAt(x.type, k) == 5 && x.v[k] == t) {
                    all.add(new int[] {u, k});
                }
            }
        }
        return all;
    }

    // What is reached from some things without going over those that are shut.
    List<Integer> reach(Pic p, List<Integer> from, Set<Integer> shut) {
        List<Integer> order = new ArrayList<>();
        Set<Integer> met = new HashSet<>(shut);
        for (int t : from) {
            if (met.add(t)) {
                order.add(t);
            }
        }
        for (int k = 0; k < order.size(); k++) {
            for (int t : links(p, order.get(k))) {
                if (met.add(t)) {
                    order.add(t);
                }
            }
        }
        return order;
    }

    List<Integer> rootThings(Pic p) {
        List<Integer> all = new ArrayList<>();
        for (int[] r : p.roots) {
            all.add(r[1]);
        }
        return all;
    }

    Set<Integer> dominated(Pic p, int t) {
        Set<Integer> all = new HashSet<>();
        for (int k = 0; k < p.things.size(); k++) {
            all.add(k);
        }
        all.removeAll(reach(p, rootThings(p), new HashSet<>(Arrays.asList(t))));
        return all;
    }

    int dominator(Pic p, int t) {
        // The nearest one is dominated by all the other ones.
        int best = NONE;
        for (int u = 0; u < p.things.size(); u++) {
            if (u != t && dominated(p, u).contains(t) && (best == NONE || dominated(p, best).contains(u))) {
                best = u;
            }
        }
        return best;
    }

    int kept(Pic p, int t) {
        int sum = 0;
        for (int u : dominated(p, t)) {
            sum += sizeOf(p.things.get(u).type, p.things.get(u).length);
        }
        return sum;
    }

    List<List<Integer>> rings(Pic p) {
        List<List<Integer>> all = new ArrayList<>();
        Set<Integer> in = new HashSet<>();
        int n = p.things.size();
        List<Set<Integer>> behind = new ArrayList<>();
        for (int t = 0; t < n; t++) {
            behind.add(new HashSet<>(reach(p, links(p, t), new HashSet<>())));
        }
        for (int t = 0; t < n; t++) {
            if (in.contains(t) || !behind.get(t).contains(t)) {
                continue;
            }
            List<Integer> ring = new ArrayList<>();
            for (int u = t; u < n; u++) {
                if (behind.get(t).contains(u) && behind.get(u).contains(t)) {
                    ring.add(u);
                }
            }
            in.addAll(ring);
            all.add(ring);
        }
        return all;
    }

    List<List<Integer>> doubles(Pic p) {
        LinkedHashMap<String, List<Integer>> groups = new LinkedHashMap<>();
        for (int t = 0; t < p.things.size(); t++) {
            Thing x = p.things.get(t);
            groups.computeIfAbsent(x.type + "/" + x.length + "/" + Arrays.toString(x.v), k -> new ArrayList<>()).add(t);
        }
        List<List<Integer>> all = new ArrayList<>(groups.values());
        all.removeIf(g -> g.size() < 2);
        return all;
    }

    static int groupOf(List<List<Integer>> groups, int t) {
        for (int g = 0; g < groups.size(); g++) {
            if (groups.get(g).contains(t)) {
                return g;
            }
        }
        return NONE;
    }

    boolean isThing(int p, int t) {
        return p >= 0 && p < 4 && t >= 0 && t < pics[p].things.size();
    }

    public int thing(int p, int t, int what) {
        if (!isThing(p, t)) {
            return NONE;
        }
        Pic pic = pics[p];
        Thing x = pic.things.get(t);
        switch (what) {
            case 0: return x.object;
            case 1: return x.type;
            case 2: return x.length;
            case 3: return sizeOf(x.type, x.length);
            case 4: return x.depth;
            case 5: return x.wayThing;
            case 6: return x.waySlot;
            case 7: return holders(pic, t).size();
            case 8: return dominator(pic, t);
            case 9: return kept(pic, t);
            case 10: return dominated(pic, t).size();
            case 11: return groupOf(rings(pic), t);
            case 12: return groupOf(doubles(pic), t);
            default: return NONE;
        }
    }

    public long slot(int p, int t, int k) {
        if (!isThing(p, t) || k < 0 || k >= pics[p].things.get(t).v.length) {
            throw new NoSuchElementException();
        }
        return pics[p].things.get(t).v[k];
    }

    public int holder(int p, int t, int k, int what) {
        if (!isThing(p, t) || k < 0 || k >= holders(pics[p], t).size() || what < 0 || what > 1) {
            throw new NoSuchElementException();
        }
        return holders(pics[p], t).get(k)[what];
    }

    public int picture(int p, int what) {
        if (p < 0 || p > 3) {
            return NONE;
        }
        Pic pic = pics[p];
        int sizes = 0;
        int doubled = 0;
        int deepest = NONE;
        int of = 0;
        int heirs = 0;
        for (int t = 0; t < pic.things.size(); t++) {
            Thing x = pic.things.get(t);
            int size = sizeOf(x.type, x.length);
            sizes += size;
            int g = groupOf(doubles(pic), t);
            doubled += g != NONE && doubles(pic).get(g).get(0) != t ? size : 0;
            deepest = Math.max(deepest, x.depth);
            of += x.type == what - 100 ? 1 : 0;
            heirs += x.type < 20 && isClass(what - 200) && is(x.type, what - 200) ? 1 : 0;
        }
        switch (what) {
            case 0: return pic.things.size();
            case 1: return rings(pic).size();
            case 2: return doubles(pic).size();
            case 3: return sizes;
            case 4: return doubled;
            case 5: return deepest;
            default: return isClass(what - 100) ? of : isClass(what - 200) ? heirs : NONE;
        }
    }

    public int member(int p, int way, int number, int k) {
        if (p < 0 || p > 3 || way < 0 || way > 1) {
            throw new NoSuchElementException();
        }
        List<List<Integer>> groups = way == 0 ? rings(pics[p]) : doubles(pics[p]);
        if (number < 0 || number >= groups.size() || k < 0 || k >= groups.get(number).size()) {
            throw new NoSuchElementException();
        }
        return groups.get(number).get(k);
    }

    public boolean choose(int p, int t, boolean on) {
        if (!isThing(p, t)) {
            return false;
        }
        if (on) {
            pics[p].chosen.add(t);
        } else {
            pics[p].chosen.remove(t);
        }
        return true;
    }

    public int lost(int p) {
        Pic pic = at(pics, p);
        List<Integer> reached = reach(pic, rootThings(pic), pic.chosen);
        pic.lost = new ArrayList<>();
        for (int t = 0; t < pic.things.size(); t++) {
            if (!reached.contains(t)) {
                pic.lost.add(t);
            }
        }
        return pic.lost.size();
    }

    public int lostThing(int p, int k) {
        return p < 0 || p > 3 || k < 0 || k >= pics[p].lost.size() ? NONE : pics[p].lost.get(k);
    }

    // What a thing is, with objects' numbers for its links.
    String told(Pic p, int t) {
        Thing x = p.things.get(t);
        StringBuilder s = new StringBuilder(x.type + "/" + x.length);
        for (int k = 0; k < x.v.length; k++) {
            boolean link = kindAt(x.type, k) == 5 && x.v[k] != NONE;
            s.append(' ').append(link ? p.things.get((int) x.v[k]).object : x.v[k]);
        }
        return s.toString();
    }

    static int find(Pic p, int object) {
        for (int t = 0; t < p.things.size(); t++) {
            if (p.things.get(t).object == object) {
                return t;
            }
        }
        return NONE;
    }

    public int growth(int p, int q, int what) {
        Pic here = at(pics, p);
        Pic there = at(pics, q);
        if (what < 0 || what > 2) {
            throw new IndexOutOfBoundsException();
        }
        Pic in = what == 1 ? here : there;
        Pic other = what == 1 ? there : here;
        grownList = new ArrayList<>();
        for (int t = 0; t < in.things.size(); t++) {
            int u = find(other, in.things.get(t).object);
            if (what < 2 ? u == NONE : u != NONE && !told(in, t).equals(told(other, u))) {
                grownList.add(t);
            }
        }
        return grownList.size();
    }

    public int grown(int k) {
        return k < 0 || k >= grownList.size() ? NONE : grownList.get(k);
    }

    public boolean like(int p, int t, int q, int u) {
        if (!isThing(p, t) || !isThing(q, u)) {
            throw new NoSuchElementException();
        }
        Map<Integer, Integer> left = new HashMap<>();
        Map<Integer, Integer> right = new HashMap<>();
        return pair(pics[p], t, pics[q], u, left, right);
    }

    boolean pair(Pic p, int t, Pic q, int u, Map<Integer, Integer> left, Map<Integer, Integer> right) {
        if (left.containsKey(t) || right.containsKey(u)) {
            return left.getOrDefault(t, NONE) == u && right.getOrDefault(u, NONE) == t;
        }
        left.put(t, u);
        right.put(u, t);
        Thing x = p.things.get(t);
        Thing y = q.things.get(u);
        if (x.type != y.type || x.length != y.length) {
            return false;
        }
        for (int k = 0; k < x.v.length; k++) {
            if (kindAt(x.type, k) != 5 || x.v[k] == NONE || y.v[k] == NONE) {
                if (x.v[k] != y.v[k]) {
                    return false;
                }
            } else if (!pair(p, (int) x.v[k], q, (int) y.v[k], left, right)) {
                return false;
            }
        }
        return true;
    }

    // ---- questions: words

    static final class Word {
        // name, keyword, number, a sign, "" the end, or null what is none
        String text;
        boolean isName;
        boolean isNumber;
        int place;
    }

    static List<Word> words(String s) {
        List<Word> all = new ArrayList<>();
        int i = 0;
        while (true) {
            while (i < s.length() && " \t\r\n".indexOf(s.charAt(i)) >= 0) {
                i++;
            }
            Word w = new Word();
            w.place = i;
            all.add(w);
            if (i == s.length()) {
                w.text = "";
                return all;
            }
            String rest = s.substring(i);
            String run = rest.replaceAll("(?s)^([A-Za-z][A-Za-z0-9]*|[0-9]+|!=|<=|>=|.).*$", "$1");
            i += run.length();
            if (run.matches("[A-Za-z].*")) {
                w.text = run.length() > 10 ? null : run;
                w.isName = w.text != null && !KEYWORDS.contains(run);
            } else if (run.matches("[0-9]+")) {
                w.text = run.length() > 18 ? null : run;
                w.isNumber = w.text != null;
            } else {
                w.text = run.length() == 2 || "()[],:;.=<>+-*/%".contains(run) ? run : null;
            }
        }
    }

    static final class Val {
        final int sort;
        final long v;

        Val(int sort, long v) {
            this.sort = sort;
            this.v = v;
        }
    }

    static final Val NOTHING = new Val(4, 0);
    static final Val NULL = new Val(3, 0);

    static Val num(long v) {
        return new Val(0, v);
    }

    static Val truth(boolean v) {
        return new Val(1, v ? 1 : 0);
    }

    final class Run {
        final Pic p;
        int meter;
        final Map<Fold, Integer> vars = new HashMap<>();
        int it;

        Run(Pic p) {
            this.p = p;
        }

        void tick() {
            meter++;
            if (meter > 30000) {
                throw new Fault(5, NONE);
            }
        }
    }

    abstract class Node {
        Val eval(Run r) {
            r.tick();
            return work(r);
        }

        abstract Val work(Run r);
    }

    final class Const extends Node {
        final Val v;

        Const(Val v) {
            this.v = v;
        }

        Val work(Run r) {
            return v;
        }
    }

    final class ThingAt extends Node {
        final long n;

        ThingAt(long n) {
            this.n = n;
        }

        Val work(Run r) {
            return n < r.p.things.size() ? new Val(2, n) : NOTHING;
        }
    }

    final class Var extends Node {
        final Fold fold;

        Var(Fold fold) {
            this.fold = fold;
        }

        Val work(Run r) {
            return new Val(2, fold == null ? r.it : r.vars.get(fold));
        }
    }

    Val slotVal(Thing x, int k) {
        if (kindAt(x.type, k) != 5) {
            return num(x.v[k]);
        }
        return x.v[k] == NONE ? NULL : new Val(2, x.v[k]);
    }

    final class One extends Node {
        final String act;
        final String name;
        final Node of;

        One(String act, String name, Node of) {
            this.act = act;
            this.name = name;
            this.of = of;
        }

        Val work(Run r) {
            Val v = of.eval(r);
            if (act.equals("-")) {
                return v.sort == 0 ? num(-v.v) : NOTHING;
            }
            if (act.equals("not")) {
                return v.sort == 1 ? truth(v.v == 0) : NOTHING;
            }
            if (v.sort != 2) {
                return NOTHING;
            }
            int t = (int) v.v;
            Thing x = r.p.things.get(t);
            switch (act) {
                case "size": return num(sizeOf(x.type, x.length));
                case "kept": return num(kept(r.p, t));
                case "depth": return num(x.depth);
                case "length": return x.type >= 20 ? num(x.length) : NOTHING;
                case "is": return truth(isNamed(x.type, name));
                default: break;
            }
            for (int c = x.type >= 20 ? NONE : x.type; c != NONE; c = classes.get(c).parent) {
                for (Fld f : classes.get(c).fields) {
                    if (!f.isStatic && f.name.equals(name)) {
                        return slotVal(x, slotFields(x.type).indexOf(f));
                    }
                }
            }
            return NOTHING;
        }
    }

    final class Two extends Node {
        final String act;
        final Node a;
        final Node b;

        Two(String act, Node a, Node b) {
            this.act = act;
            this.a = a;
            this.b = b;
        }

        Val work(Run r) {
            Val x = a.eval(r);
            if (act.equals("and") || act.equals("or")) {
                boolean or = act.equals("or");
                if (x.sort != 1) {
                    return NOTHING;
                }
                if ((x.v == 1) == or) {
                    return x;
                }
                Val y = b.eval(r);
                return y.sort == 1 ? y : NOTHING;
            }
            Val y = b.eval(r);
            if (act.equals("=") || act.equals("!=")) {
                boolean links = (x.sort == 2 || x.sort == 3) && (y.sort == 2 || y.sort == 3);
                if (x.sort == 4 || y.sort == 4 || x.sort != y.sort && !links) {
                    return NOTHING;
                }
                return truth((x.sort == y.sort && x.v == y.v) == act.equals("="));
            }
            if (act.equals("[")) {
                if (x.sort != 2 || y.sort != 0) {
                    return NOTHING;
                }
                Thing t = r.p.things.get((int) x.v);
                return t.type >= 20 && y.v >= 0 && y.v < t.length ? slotVal(t, (int) y.v) : NOTHING;
            }
            if (x.sort != 0 || y.sort != 0) {
                return NOTHING;
            }
            switch (act) {
                case "<": return truth(x.v < y.v);
                case "<=": return truth(x.v <= y.v);
                case ">": return truth(x.v > y.v);
                case ">=": return truth(x.v >= y.v);
                case "+": return num(x.v + y.v);
                case "-": return num(x.v - y.v);
                case "*": return num(x.v * y.v);
                case "/": return y.v == 0 ? NOTHING : num(x.v / y.v);
                default: return y.v == 0 ? NOTHING : num(x.v % y.v);
            }
        }
    }

    final class SetNode {
        String kind;
        String name;
        Node of;

        List<Integer> begin(Run r) {
            r.tick();
            List<Integer> all = new ArrayList<>();
            if (of == null) {
                for (int t = 0; t < r.p.things.size(); t++) {
                    int type = r.p.things.get(t).type;
                    if (kind.equals("things") || kind.equals("all") && isNamed(type, name)
                        || kind.equals("own") && type < 20 && classes.get(type).name.equals(name)) {
                        all.add(t);
                    }
                }
                return all;
            }
            Val v = of.eval(r);
            if (v.sort != 2) {
                return all;
            }
            int t = (int) v.v;
            if (kind.equals("slots")) {
                return links(r.p, t);
            }
            if (kind.equals("from")) {
                return reach(r.p, Arrays.asList(t), new HashSet<>());
            }
            for (int[] h : holders(r.p, t)) {
                if (h[0] != NONE) {
                    all.add(h[0]);
                }
            }
            return all;
        }
    }

    final class Fold extends Node {
        String kind;
        SetNode set;
        Node where;
        Node of;

        Val work(Run r) {
            long count = 0;
            long sum = 0;
            Long most = null;
            Long least = null;
            for (int t : set.begin(r)) {
                r.tick();
                r.vars.put(this, t);
                if (where != null) {
                    Val w = where.eval(r);
                    if (w.sort != 1 || w.v != 1) {
                        continue;
                    }
                }
                count++;
                if (of == null) {
                    continue;
                }
                Val v = of.eval(r);
                boolean isTrue = v.sort == 1 && v.v == 1;
                if (kind.equals("some") && isTrue) {
                    return truth(true);
                }
                if (kind.equals("each") && !isTrue) {
                    return truth(false);
                }
                if (v.sort == 0) {
                    sum += v.v;
                    most = most == null || v.v > most ? (Long) v.v : most;
                    least = least == null || v.v < least ? (Long) v.v : least;
                }
            }
            switch (kind) {
                case "count": return num(count);
                case "sum": return num(sum);
                case "most": return most == null ? NOTHING : num(most);
                case "least": return least == null ? NOTHING : num(least);
                default: return truth(kind.equals("each"));
            }
        }
    }

    /** Reads questions, from the left, one word at a time. */
    final class Reader {
        final List<Word> words;
        int at;
        int nodes;
        int nest;
        boolean itKnown;
        final List<String> names = new ArrayList<>();
        final List<Fold> folds = new ArrayList<>();

        Reader(String s) {
            words = Model.words(s);
        }

        Word now() {
            return words.get(at);
        }

        boolean is(String text) {
            return text.equals(now().text);
        }

        boolean isOne(String texts) {
            return now().text != null && !now().text.isEmpty() && Arrays.asList(texts.split(" ")).contains(now().text);
        }

        Fault wrong() {
            return new Fault(now().text == null ? 2 : 1, now().place);
        }

        void need(String text) {
            if (!is(text)) {
                throw wrong();
            }
            if (!text.isEmpty()) {
                at++;
            }
        }

        String name() {
            if (!now().isName) {
                throw wrong();
            }
            return words.get(at++).text;
        }

        void node() {
            if (++nodes > 120) {
                throw new Fault(4, now().place);
            }
        }

        void open() {
            if (++nest > 10) {
                throw new Fault(4, now().place);
            }
        }

        SetNode readSet() {
            if (!isOne("all own things slots held from")) {
                throw wrong();
            }
            node();
            SetNode s = new SetNode();
            s.kind = words.get(at++).text;
            if (s.kind.equals("all") || s.kind.equals("own")) {
                s.name = name();
            } else if (!s.kind.equals("things")) {
                s.of = readP();
            }
            return s;
        }

        Node readE() {
            Node e = readAnd();
            while (is("or")) {
                node();
                at++;
                e = new Two("or", e, readAnd());
            }
            return e;
        }

        Node readAnd() {
            Node e = readNot();
            while (is("and")) {
                node();
                at++;
                e = new Two("and", e, readNot());
            }
            return e;
        }

        Node readNot() {
            if (is("not")) {
                node();
                at++;
                return new One("not", null, readNot());
            }
            Node e = readSum();
            if (is("is")) {
                node();
                at++;
                return new One("is", name(), e);
            }
            if (isOne("= != < <= > >=")) {
                node();
                String act = words.get(at++).text;
                return new Two(act, e, readSum());
            }
            return e;
        }

        Node readSum() {
            Node e = readProduct();
            while (isOne("+ -")) {
                node();
                String act = words.get(at++).text;
                e = new Two(act, e, readProduct());
            }
            return e;
        }

        Node readProduct() {
            Node e = readSigned();
            while (isOne("* / %")) {
                node();
                String act = words.get(at++).text;
                e = new Two(act, e, readSigned());
            }
            return e;
        }

        Node readSigned() {
            if (is("-")) {
                node();
                at++;
                return new One("-", null, readSigned());
            }
            return readP();
        }

        Node readP() {
            Node p = readAtom();
            while (isOne(". [")) {
                node();
                if (is(".")) {
                    at++;
                    p = new One(".", name(), p);
                } else {
                    open();
                    at++;
                    p = new Two("[", p, readE());
                    need("]");
                    nest--;
                }
            }
            return p;
        }

        Node readAtom() {
            Word w = now();
            if (w.isNumber) {
                node();
                at++;
                return new Const(num(Long.parseLong(w.text)));
            }
            if (isOne("null true false")) {
                node();
                at++;
                return new Const(w.text.equals("null") ? NULL : truth(w.text.equals("true")));
            }
            if (is("it")) {
                if (!itKnown) {
                    throw new Fault(3, w.place);
                }
                node();
                at++;
                return new Var(null);
            }
            if (is("thing")) {
                node();
                at++;
                if (!now().isNumber) {
                    throw wrong();
                }
                return new ThingAt(Long.parseLong(words.get(at++).text));
            }
            if (w.isName) {
                int k = names.lastIndexOf(w.text);
                if (k < 0) {
                    throw new Fault(3, w.place);
                }
                node();
                at++;
                return new Var(folds.get(k));
            }
            if (is("(")) {
                open();
                at++;
                Node e = readE();
                need(")");
                nest--;
                return e;
            }
            if (isOne("size kept depth length")) {
                node();
                at++;
                return new One(w.text, null, readP());
            }
            if (isOne("count sum most least some each")) {
                return readFold();
            }
            throw wrong();
        }

        Node readFold() {
            node();
            open();
            Fold f = new Fold();
            f.kind = words.get(at++).text;
            need("(");
            String name = name();
            need("in");
            f.set = readSet();
            names.add(name);
            folds.add(f);
            if (is("where")) {
                at++;
                f.where = readE();
            }
            if (!f.kind.equals("count")) {
                need(":");
                f.of = readE();
            }
            need(")");
            names.remove(names.size() - 1);
            folds.remove(folds.size() - 1);
            nest--;
            return f;
        }
    }

    public int ask(int p) {
        Pic pic = at(pics, p);
        rowsOfAsk = new ArrayList<>();
        try {
            Reader r = new Reader(tapeText());
            SetNode set = r.readSet();
            r.itKnown = true;
            Node where = null;
            Node get = null;
            if (r.is("where")) {
                r.at++;
                where = r.readE();
            }
            if (r.is("get")) {
                r.at++;
                get = r.readE();
            }
            r.need("");
            List<long[]> rows = new ArrayList<>();
            Run run = new Run(pic);
            for (int t : set.begin(run)) {
                run.tick();
                run.it = t;
                if (where != null) {
                    Val w = where.eval(run);
                    if (w.sort != 1 || w.v != 1) {
                        continue;
                    }
                }
                Val v = get == null ? new Val(2, t) : get.eval(run);
                rows.add(new long[] {t, v.sort, v.v});
            }
            rowsOfAsk = rows;
            tell(null);
        } catch (Fault f) {
            tell(f);
            throw new IllegalArgumentException();
        }
        return rowsOfAsk.size();
    }

    public long answer(int k, int what) {
        if (k < 0 || k >= rowsOfAsk.size() || what < 0 || what > 2) {
            throw new NoSuchElementException();
        }
        return rowsOfAsk.get(k)[what];
    }

    // ---- rules

    static final class Part {
        String kind;
        String name;
        List<Integer> vs = new ArrayList<>();
    }

    static final class Rule {
        Part head;
        List<Part> body = new ArrayList<>();
        List<String> vars = new ArrayList<>();
    }

    final class RuleReader {
        final List<Word> words;
        int at;
        final List<Rule> rules = new ArrayList<>();
        final LinkedHashMap<String, Integer> arity = new LinkedHashMap<>();

        RuleReader(String s) {
            words = Model.words(s);
        }

        Word now() {
            return words.get(at);
        }

        boolean is(String s) {
            return s.equals(now().text);
        }

        Fault wrong() {
            return new Fault(now().text == null ? 2 : 1, now().place);
        }

        void need(String s) {
            if (!is(s)) {
                throw wrong();
            }
            at++;
        }

        boolean plain() {
            return now().isName && !is("if") && !is("link");
        }

        void readAll() {
            while (!is("")) {
                readRule();
            }
        }

        void readRule() {
            if (!plain()) {
                throw wrong();
            }
            if (rules.size() == 12) {
                throw new Fault(4, now().place);
            }
            Rule rule = new Rule();
            Word w = words.get(at++);
            rule.head = readRelation(rule, w);
            need("if");
            do {
                if (!rule.body.isEmpty()) {
                    need(",");
                }
                if (!plain() && !is("link")) {
                    throw wrong();
                }
                if (rule.body.size() == 4) {
                    throw new Fault(4, now().place);
                }
                rule.body.add(readPart(rule));
            } while (is(","));
            if (!is(";")) {
                throw wrong();
            }
            for (int v : rule.head.vs) {
                boolean stands = false;
                for (Part p : rule.body) {
                    stands |= !p.kind.equals("=") && !p.kind.equals("!=") && p.vs.contains(v);
                }
                if (!stands) {
                    throw new Fault(3, now().place);
                }
            }
            at++;
            rules.add(rule);
        }

        Part readPart(Rule rule) {
            Word w = words.get(at++);
            if (w.text.equals("link")) {
                Part p = new Part();
                p.kind = "link";
                need("(");
                p.vs.add(variable(rule));
                need(",");
                p.vs.add(variable(rule));
                need(")");
                return p;
            }
            if (is("(")) {
                return readRelation(rule, w);
            }
            Part p = new Part();
            if (is(":")) {
                p.kind = "class";
                p.name = w.text;
                at++;
            } else if (is("=") || is("!=")) {
                p.kind = now().text;
                p.vs.add(number(rule, w));
                at++;
            } else {
                throw wrong();
            }
            p.vs.add(variable(rule));
            return p;
        }

        // The name w has been read, for a head or with ( behind it.
        Part readRelation(Rule rule, Word w) {
            if (!arity.containsKey(w.text) && arity.size() == 6) {
                throw new Fault(4, w.place);
            }
            arity.putIfAbsent(w.text, 0);
            need("(");
            Part p = new Part();
            p.kind = "relation";
            p.name = w.text;
            p.vs.add(variable(rule));
            if (!is(",") && !is(")")) {
                throw wrong();
            }
            int n = is(",") ? 2 : 1;
            if (arity.get(w.text) == 0) {
                arity.put(w.text, n);
            }
            if (arity.get(w.text) != n) {
                throw new Fault(3, w.place);
            }
            at++;
            if (n == 2) {
                p.vs.add(variable(rule));
                need(")");
            }
            return p;
        }

        int variable(Rule rule) {
            if (!plain()) {
                throw wrong();
            }
            int v = number(rule, now());
            at++;
            return v;
        }

        int number(Rule rule, Word w) {
            if (!rule.vars.contains(w.text)) {
                if (rule.vars.size() == 3) {
                    throw new Fault(4, w.place);
                }
                rule.vars.add(w.text);
            }
            return rule.vars.indexOf(w.text);
        }
    }

    public int rules(int p) {
        Pic pic = at(pics, p);
        if (pic.things.size() > 40) {
            throw new IllegalStateException();
        }
        relations = new LinkedHashMap<>();
        RuleReader r = new RuleReader(tapeText());
        try {
            r.readAll();
            tell(null);
        } catch (Fault f) {
            tell(f);
            throw new IllegalArgumentException();
        }
        arities = r.arity;
        for (String name : r.arity.keySet()) {
            relations.put(name, new HashSet<>());
        }
        boolean changed = true;
        while (changed) {
            changed = false;
            for (Rule rule : r.rules) {
                changed |= tryRule(pic, rule, new ArrayList<>());
            }
        }
        int sum = 0;
        for (Set<List<Integer>> facts : relations.values()) {
            sum += facts.size();
        }
        return sum;
    }

    boolean tryRule(Pic pic, Rule rule, List<Integer> things) {
        boolean changed = false;
        if (things.size() < rule.vars.size()) {
            for (int t = 0; t < pic.things.size(); t++) {
                things.add(t);
                changed |= tryRule(pic, rule, things);
                things.remove(things.size() - 1);
            }
            return changed;
        }
        for (Part p : rule.body) {
            int a = things.get(p.vs.get(0));
            int b = things.get(p.vs.get(p.vs.size() - 1));
            boolean so;
            switch (p.kind) {
                case "link": so = links(pic, a).contains(b); break;
                case "class": so = isNamed(pic.things.get(a).type, p.name); break;
                case "=": so = a == b; break;
                case "!=": so = a != b; break;
                default: so = relations.get(p.name).contains(p.vs.size() == 1 ? Arrays.asList(a) : Arrays.asList(a, b));
            }
            if (!so) {
                return false;
            }
        }
        List<Integer> fact = new ArrayList<>();
        for (int v : rule.head.vs) {
            fact.add(things.get(v));
        }
        return relations.get(rule.head.name).add(fact);
    }

    public int facts(int k) {
        return k < 0 || k >= relations.size() ? NONE : new ArrayList<>(relations.values()).get(k).size();
    }

    public boolean isFact(int k, int a, int b) {
        if (k < 0 || k >= relations.size()) {
            throw new NoSuchElementException();
        }
        String name = new ArrayList<>(relations.keySet()).get(k);
        return relations.get(name).contains(arities.get(name) == 1 ? Arrays.asList(a) : Arrays.asList(a, b));
    }

    public int fault(int what) {
        return what == 0 ? faultCode : what == 1 ? faultPlace : NONE;
    }

    // ---- bytes

    static void putNumber(List<Integer> to, long v) {
        while ((v & ~127L) != 0) {
            to.add((int) (v & 127) | 128);
            v >>>= 7;
        }
        to.add((int) v);
    }

    static int check(List<Integer> bytes) {
        int h = 1;
        for (int b : bytes) {
            h *= 16777619;
            h ^= b;
        }
        return h;
    }

    List<Integer> encode(Pic p) {
        List<Integer> to = new ArrayList<>(Arrays.asList(72, 80));
        putNumber(to, p.things.size());
        for (Thing x : p.things) {
            putNumber(to, x.object);
            putNumber(to, x.type);
            putNumber(to, x.length);
            for (int k = 0; k < x.v.length; k++) {
                long v = x.v[k];
                putNumber(to, kindAt(x.type, k) == 5 ? v + 1 : v >= 0 ? 2 * v : -2 * v - 1);
            }
        }
        putNumber(to, p.roots.size());
        for (int[] r : p.roots) {
            putNumber(to, r[0]);
            putNumber(to, r[1]);
        }
        int h = check(to);
        for (int k = 0; k < 4; k++) {
            to.add(h >> 8 * k & 255);
        }
        return to;
    }

    final class ByteReader {
        final List<Integer> bytes;
        int at;
        int first;

        ByteReader(List<Integer> bytes) {
            this.bytes = bytes;
        }

        int next() {
            if (at == bytes.size()) {
                throw new Fault(1, at);
            }
            return bytes.get(at++);
        }

        java.math.BigInteger number() {
            first = at;
            java.math.BigInteger n = java.math.BigInteger.ZERO;
            int shift = 0;
            while (true) {
                int b = next();
                n = n.add(java.math.BigInteger.valueOf(b & 127).shiftLeft(shift));
                if (shift == 63 && b >= 128 || n.bitLength() > 64 || b == 0 && shift > 0) {
                    throw new Fault(3, first);
                }
                if (b < 128) {
                    return n;
                }
                shift += 7;
            }
        }

        int upTo(int most) {
            java.math.BigInteger n = number();
            if (n.compareTo(java.math.BigInteger.valueOf(most)) > 0) {
                throw new Fault(4, first);
            }
            return n.intValue();
        }

        Pic read() {
            for (int b : new int[] {72, 80}) {
                if (next() != b) {
                    throw new Fault(2, at - 1);
                }
            }
            Pic p = new Pic();
            int n = upTo(400);
            int slots = 0;
            List<Integer> places = new ArrayList<>();
            List<int[]> links = new ArrayList<>();
            for (int t = 0; t < n; t++) {
                Thing x = new Thing();
                x.object = upTo(399);
                places.add(first);
                if (find(p, x.object) != NONE) {
                    throw new Fault(4, first);
                }
                x.type = upTo(1000);
                if (!isType(x.type)) {
                    throw new Fault(4, first);
                }
                x.length = upTo(x.type >= 20 ? 60 : 0);
                x.v = new long[slotCount(x.type, x.length)];
                slots += x.v.length;
                if (slots > 4000) {
                    throw new Fault(4, first);
                }
                p.things.add(x);
                for (int k = 0; k < x.v.length; k++) {
                    int kind = kindAt(x.type, k);
                    if (kind == 5) {
                        x.v[k] = upTo(n) - 1;
                        links.add(new int[] {first, (int) x.v[k], linkAt(x.type, k)});
                    } else {
                        long v = number().longValue();
                        x.v[k] = v >>> 1 ^ -(v & 1);
                        if (!isValue(kind, NONE, x.v[k])) {
                            throw new Fault(4, first);
                        }
                    }
                }
            }
            for (int[] l : links) {
                if (l[1] != NONE && !fits(p.things.get(l[1]).type, l[2])) {
                    throw new Fault(4, l[0]);
                }
            }
            readEnd(p, places);
            return p;
        }

        void readEnd(Pic p, List<Integer> places) {
            int count = upTo(108);
            int ahead = NONE;
            for (int r = 0; r < count; r++) {
                int number = upTo(107);
                if (number <= ahead) {
                    throw new Fault(4, first);
                }
                ahead = number;
                p.roots.add(new int[] {number, upTo(p.things.size() - 1)});
            }
            if (bytes.size() - at < 4) {
                throw new Fault(1, bytes.size());
            }
            int h = check(bytes.subList(0, at));
            for (int k = 0; k < 4; k++) {
                if (bytes.get(at + k) != (h >> 8 * k & 255)) {
                    throw new Fault(5, at);
                }
            }
            if (at + 4 < bytes.size()) {
                throw new Fault(6, at + 4);
            }
            List<Integer> walk = reach(p, rootThings(p), new HashSet<>());
            for (int t = 0; t < p.things.size(); t++) {
                if (t >= walk.size() || walk.get(t) != t) {
                    throw new Fault(7, places.get(t));
                }
            }
            for (int t = 0; t < p.things.size(); t++) {
                int[] way = holders(p, t).get(0);
                p.things.get(t).wayThing = way[0];
                p.things.get(t).waySlot = way[1];
                p.things.get(t).depth = way[0] == NONE ? 0 : p.things.get(way[0]).depth + 1;
            }
        }
    }

    public int bytes(int p) {
        List<Integer> all = encode(at(pics, p));
        if (all.size() > 4000) {
            throw new IllegalStateException();
        }
        tape = all;
        return all.size();
    }

    public int load(int p) {
        at(pics, p);
        try {
            pics[p] = new ByteReader(tape).read();
            tell(null);
        } catch (Fault f) {
            tell(f);
            throw new IllegalArgumentException();
        }
        for (Thing x : pics[p].things) {
            if (x.type < 20) {
                classes.get(x.type).used = true;
            }
        }
        return pics[p].things.size();
    }

    public int keep(int p) {
        List<Integer> all = encode(at(pics, p));
        if (all.size() > 4000 || log.size() + 2 + all.size() > 8000) {
            throw new IllegalStateException();
        }
        log.add(all.size() % 256);
        log.add(all.size() / 256);
        log.addAll(all);
        return ++records;
    }

    // The places where whole records begin, and where the last one ends.
    List<Integer> recordPlaces() {
        List<Integer> all = new ArrayList<>();
        int at = 0;
        all.add(0);
        while (at + 2 <= log.size() && at + 2 + log.get(at) + 256 * log.get(at + 1) <= log.size()) {
            at += 2 + log.get(at) + 256 * log.get(at + 1);
            all.add(at);
        }
        return all;
    }

    public int reopen(int n) {
        int left = n < 0 ? 0 : Math.min(n, log.size());
        log = new ArrayList<>(log.subList(0, left));
        List<Integer> places = recordPlaces();
        records = places.size() - 1;
        log = new ArrayList<>(log.subList(0, places.get(records)));
        return records;
    }

    public int recall(int p, int k) {
        at(pics, p);
        if (k < 0 || k >= records) {
            throw new NoSuchElementException();
        }
        List<Integer> places = recordPlaces();
        pics[p] = new ByteReader(log.subList(places.get(k) + 2, places.get(k + 1))).read();
        return pics[p].things.size();
    }

    public int about(int what) {
        int[] all = {tape.size(), classes.size(), thereCount(), allSlots(), roots.size(), writes, undos.size(), records,
            log.size(), watches.size(), promises.size(), rowsOfAsk.size(), relations.size()};
        return what < 0 || what >= all.length ? NONE : all[what];
    }
}
