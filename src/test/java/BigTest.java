import java.util.BitSet;
import java.util.Random;

/** The document's limits reached: as many objects, slots, roots and links as may be, compared with plain reckonings. */
public final class BigTest {
    public static void main(String[] args) {
        for (int seed = 1; seed <= 12; seed++) {
            graph(seed);
        }
        for (int seed = 1; seed <= 6; seed++) {
            doubles(seed);
        }
        chain();
        wideClasses();
        manyRoots();
        hardQuestions();
        fullTape();
        Check.done("BigTest");
    }

    private static final int N = 400;

    // 400 arrays of ten links: all slots that there may be.
    private static void graph(int seed) {
        Random random = new Random(seed);
        HeapWorks x = new HeapWorks();
        int[][] to = new int[N][10];
        for (int o = 0; o < N; o++) {
            x.make(29, 10);
        }
        Check.refused("full", Check.STATE, () -> x.make(29, 0));
        int links = new int[] {1, 2, 3, 10}[seed % 4];
        for (int o = 0; o < N; o++) {
            for (int k = 0; k < 10; k++) {
                boolean near = random.nextInt(4) > 0;
                int other = near ? Math.min(N - 1, o + random.nextInt(12)) : random.nextInt(N);
                to[o][k] = k < links ? other : -1;
                x.set(o, k, to[o][k]);
            }
        }
        for (int k = 0; k < 12; k++) {
            x.root(k * 31 % N, true);
        }
        int things = x.take(0);
        int[][] out = new int[things][];
        int[] objectOf = new int[things];
        int[] thingOf = new int[N];
        for (int t = 0; t < things; t++) {
            objectOf[t] = x.thing(0, t, 0);
            thingOf[objectOf[t]] = t;
        }
        for (int t = 0; t < things; t++) {
            out[t] = new int[links];
            for (int k = 0; k < 10; k++) {
                int due = to[objectOf[t]][k] < 0 ? -1 : thingOf[to[objectOf[t]][k]];
                Check.same("slot", x.slot(0, t, k), due);
                if (k < links) {
                    out[t][k] = due;
                }
            }
        }
        int[] roots = new int[12];
        for (int k = 0; k < 12; k++) {
            roots[k] = thingOf[k * 31 % N];
        }
        keepers(x, things, out, roots);
        rings(x, things, out);
        holders(x, things, out, roots);
        if (x.about(0) == 0 && things < 200) {
            int size = x.bytes(0);
            Check.same("load", x.load(1), things);
            Check.same("size", size, x.about(0));
            Check.same("nothing changed", x.growth(0, 1, 2) + x.growth(0, 1, 0) + x.growth(0, 1, 1), 0);
            Check.same("like", x.like(0, 0, 1, 0), true);
        }
    }

    private static BitSet reached(int[][] out, int[] from, int shut) {
        BitSet met = new BitSet();
        int[] queue = new int[out.length];
        int n = 0;
        for (int t : from) {
            if (t != shut && !met.get(t)) {
                met.set(t);
                queue[n++] = t;
            }
        }
        for (int k = 0; k < n; k++) {
            for (int t : out[queue[k]]) {
                if (t >= 0 && t != shut && !met.get(t)) {
                    met.set(t);
                    queue[n++] = t;
                }
            }
        }
        return met;
    }

    private static void keepers(HeapWorks x, int things, int[][] out, int[] roots) {
        BitSet[] over = new BitSet[things];
        for (int t = 0; t < things; t++) {
            over[t] = new BitSet();
            over[t].set(0, things);
            over[t].andNot(reached(out, roots, t));
        }
        for (int t = 0; t < things; t++) {
            int best = -1;
            for (int u = 0; u < things; u++) {
                if (u != t && over[u].get(t) && (best < 0 || over[best].get(u))) {
                    best = u;
                }
            }
            Check.same("dominator of " + t, x.thing(0, t, 8), best);
            Check.same("kept by " + t, x.thing(0, t, 9), 56 * over[t].cardinality());
            Check.same("dominated by " + t, x.thing(0, t, 10), over[t].cardinality());
        }
        // What one chosen thing cuts is what it dominates.
        for (int t = 0; t < things; t += 37) {
            x.choose(0, t, true);
            Check.same("cut by " + t, x.lost(0), over[t].cardinality());
            Check.same("the first", x.lostThing(0, 0), over[t].nextSetBit(0));
            x.choose(0, t, false);
        }
    }

    private static void rings(HeapWorks x, int things, int[][] out) {
        BitSet[] behind = new BitSet[things];
        for (int t = 0; t < things; t++) {
            int[] links = out[t];
            int real = 0;
            for (int u : links) {
                real += u >= 0 ? 1 : 0;
            }
            int[] from = new int[real];
            for (int u : links) {
                if (u >= 0) {
                    from[--real] = u;
                }
            }
            behind[t] = reached(out, from, -1);
        }
        int count = 0;
        int[] ring = new int[things];
        java.util.Arrays.fill(ring, -1);
        for (int t = 0; t < things; t++) {
            if (ring[t] < 0 && behind[t].get(t)) {
                int k = 0;
                for (int u = t; u < things; u++) {
                    if (behind[t].get(u) && behind[u].get(t)) {
                        ring[u] = count;
                        if (k % 50 == 0) {
                            Check.same("member", x.member(0, 0, count, k), u);
                        }
                        k++;
                    }
                }
                count++;
            }
            Check.same("ring of " + t, x.thing(0, t, 11), ring[t]);
        }
        Check.same("rings", x.picture(0, 1), count);
    }

    private static void holders(HeapWorks x, int things, int[][] out, int[] roots) {
        int[] count = new int[things];
        for (int r = 0; r < 12; r++) {
            Check.same("a root", x.holder(0, roots[r], count[roots[r]], 0), -1);
            Check.same("its number", x.holder(0, roots[r], count[roots[r]], 1), r);
            count[roots[r]]++;
        }
        for (int t = 0; t < things; t++) {
            for (int k = 0; k < out[t].length; k++) {
                int u = out[t][k];
                Check.same("a thing", x.holder(0, u, count[u], 0), t);
                Check.same("its slot", x.holder(0, u, count[u], 1), k);
                count[u]++;
            }
        }
        for (int t = 0; t < things; t++) {
            Check.same("holders", x.thing(0, t, 7), count[t]);
        }
    }

    // Some 400 arrays of numbers and links with few values, so that many are doubles, and many others nearly so.
    private static void doubles(int seed) {
        Random random = new Random(seed);
        HeapWorks x = new HeapWorks();
        for (int o = 0; o < 7; o++) {
            x.make(29, 60);
            x.root(o, true);
        }
        for (int k = 0; k < 393; k++) {
            int length = random.nextInt(7);
            int type = random.nextInt(8) == 0 ? 29 : 20 + random.nextInt(5);
            int o = x.make(type, length);
            for (int s = 0; s < length; s++) {
                x.set(o, s, random.nextInt(type == 20 ? 2 : seed % 2 + 2) - (type == 29 ? 1 : 0));
            }
            x.set(k / 60, k % 60, o);
        }
        int things = x.take(0);
        java.util.Map<String, java.util.List<Integer>> groups = new java.util.LinkedHashMap<>();
        for (int t = 0; t < things; t++) {
            StringBuilder told = new StringBuilder(x.thing(0, t, 1) + "/" + x.thing(0, t, 2));
            for (int k = 0; k < x.thing(0, t, 2); k++) {
                told.append(' ').append(x.slot(0, t, k));
            }
            groups.computeIfAbsent(told.toString(), s -> new java.util.ArrayList<>()).add(t);
        }
        int count = 0;
        int size = 0;
        for (java.util.List<Integer> group : groups.values()) {
            boolean doubled = group.size() > 1;
            for (int k = 0; k < group.size(); k++) {
                Check.same("group", x.thing(0, group.get(k), 12), doubled ? count : -1);
                if (doubled) {
                    Check.same("member", x.member(0, 1, count, k), group.get(k));
                    size += k > 0 ? x.thing(0, group.get(k), 3) : 0;
                }
            }
            count += doubled ? 1 : 0;
        }
        Check.same("groups", x.picture(0, 2), count);
        Check.same("sizes", x.picture(0, 4), size);
    }

    // 400 objects in a row, then in a ring.
    private static void chain() {
        Check c = new Check();
        HeapWorks x = c.x;
        c.type("N");
        c.link(0, "a", 0);
        c.link(0, "b", 0);
        for (int k = 0; k < N; k++) {
            x.make(0, 0);
            if (k > 0) {
                x.set(k - 1, 0, k);
            }
        }
        x.root(0, true);
        Check.same("things", x.take(0), N);
        Check.same("deepest", x.picture(0, 5), N - 1);
        Check.same("dominated", x.thing(0, 0, 10), N);
        Check.same("dominator", x.thing(0, N - 1, 8), N - 2);
        Check.same("rings", x.picture(0, 1), 0);
        Check.same("doubles", x.picture(0, 2), 0);
        Check.same("from", c.ask(0, "from thing 100"), 300);
        Check.same("like", x.like(0, 5, 0, 6), false);
        x.set(N - 1, 0, 0);
        x.take(1);
        Check.same("one ring", x.picture(1, 1), 1);
        Check.same("all of it", x.member(1, 0, 0, N - 1), N - 1);
        Check.same("turned", x.like(1, 5, 1, 300), true);
        Check.same("changed", x.growth(0, 1, 2), 1);
        Check.same("the last", x.grown(0), N - 1);
        // links back from everywhere, so that the nearest common dominator moves up again and again
        for (int k = 0; k < N; k++) {
            x.set(k, 1, k * 7 % N);
        }
        x.take(2);
        Check.same("one ring", x.picture(2, 1), 1);
        for (int k = 0; k < N; k++) {
            x.set(k, 1, -1);
            x.set(k, 0, -1);
        }
        x.take(3);
        Check.same("lost all", x.picture(3, 0), 1);
        Check.same("gone", x.growth(2, 3, 1), N - 1);
        Check.same("collect", x.collect(), N - 1);
    }

    // 16 classes, each the heir of the one ahead, with 6 fields each: objects of 96 slots.
    private static void wideClasses() {
        Check c = new Check();
        HeapWorks x = c.x;
        for (int k = 0; k < 16; k++) {
            c.type("C" + k, k - 1, k % 4);
            for (int f = 0; f < 6; f++) {
                c.field(k, "f" + f, f == 5 ? 5 : f % 5, f == 5 ? -1 : 0, false);
            }
        }
        Check.same("slots", x.typeLook(15, 3), 96);
        int o = x.make(15, 0);
        for (int k = 0; k < 96; k++) {
            x.set(o, k, k % 6 == 5 ? o : 1);
        }
        x.root(o, true);
        for (int k = 1; k < 41; k++) {
            x.copy(o, 1);
        }
        Check.same("slots", x.about(3), 41 * 96);
        Check.refused("no more", Check.STATE, () -> x.copy(o, 0));
        x.take(0);
        Check.same("kept", x.thing(0, 0, 9), x.typeLook(15, 4));
        Check.same("holders", x.thing(0, 0, 7), 17);
        Check.same("slots", c.ask(0, "slots thing 0"), 16);
        Check.same("held", c.ask(0, "held thing 0"), 16);
        c.number("count(y in slots it.f5.f5 where y.f4 = 1 and y is C0)", 16);
        x.bytes(0);
        Check.same("load", x.load(1), 1);
        Check.same("like", x.like(0, 0, 1, 0), true);
    }

    // 12 told roots and 96 statics that are links.
    private static void manyRoots() {
        Check c = new Check();
        HeapWorks x = c.x;
        for (int k = 0; k < 16; k++) {
            c.type("C" + k);
            for (int f = 0; f < 6; f++) {
                c.field(k, "f" + f, 5, -1, true);
            }
        }
        int o = x.make(0, 0);
        for (int k = 0; k < 11; k++) {
            x.root(x.make(1, 0), true);
        }
        x.root(o, true);
        for (int k = 0; k < 16; k++) {
            for (int f = 0; f < 6; f++) {
                x.setStatic(k, f, o);
            }
        }
        Check.same("things", x.take(0), 12);
        Check.same("holders", x.thing(0, 11, 7), 97);
        Check.same("the last", x.holder(0, 11, 96, 1), 107);
        Check.same("doubles", x.picture(0, 2), 1);
        x.bytes(0);
        Check.same("load", x.load(1), 12);
        Check.same("the last", x.holder(1, 11, 96, 1), 107);
        x.setStatic(0, 0, -1);
        x.take(0);
        Check.same("a null one has its number", x.holder(0, 11, 1, 1), 13);
        int other = x.make(1, 0);
        Check.same("writes", x.swap(o, other), 95);
        Check.same("undo", x.about(6), 100);
    }

    // A tape of 4000 words, or of one.
    private static void fullTape() {
        Check c = new Check();
        HeapWorks x = c.x;
        String[] fill = {"(", ";", "-", "x", "7", " ", "@", "x "};
        for (String word : fill) {
            c.text(Check.repeat(word, 4000 / word.length()));
            Check.same("4000", x.about(0), 4000);
            Check.refused("ask " + word, Check.ARGUMENT, () -> x.ask(0));
            Check.refused("promise " + word, Check.ARGUMENT, () -> x.promise());
            Check.refused("type " + word, Check.ARGUMENT, () -> x.type(-1, 0));
            Check.refused("load " + word, Check.ARGUMENT, () -> x.load(0));
            if (!word.equals(" ")) {
                Check.refused("rules " + word, Check.ARGUMENT, () -> x.rules(0));
            } else {
                Check.same("no rules", x.rules(0), 0);
            }
        }
        c.text("things" + Check.repeat(" ", 3994));
        Check.same("blanks behind", x.ask(0), 0);
        c.text(Check.repeat("\n", 3994) + "things");
        Check.same("blanks ahead", x.ask(0), 0);
        c.text("things where" + Check.repeat(" ", 3988));
        Check.refused("it ends", Check.ARGUMENT, () -> x.ask(0));
        Check.same("at the tape's length", x.fault(1), 4000);
    }

    // Three promises that take nearly all of their meter at each write.
    private static void hardQuestions() {
        Check c = new Check();
        HeapWorks x = c.x;
        c.type("N");
        c.link(0, "a", 0);
        c.field(0, "n", 3);
        for (int k = 0; k < 90; k++) {
            x.make(0, 0);
            if (k > 0) {
                x.set(k - 1, 0, k);
            }
        }
        x.root(0, true);
        String[] hard = {"sum(x in things : sum(y in things : 1)) > 0",
            "count(x in things where some(y in held x : kept y > kept x)) = 89",
            "each(x in things : count(y in from x where depth y < depth x) = 0)"};
        for (int k = 0; k < 3; k++) {
            c.text(hard[k]);
            Check.same("promise", x.promise(), k);
        }
        for (int k = 0; k < 280; k++) {
            x.set(k % 90, 1, k);
        }
        for (int k = 0; k < 3; k++) {
            Check.same("it holds", x.broken(k), -2);
        }
        x.set(88, 0, 0);
        Check.same("broken", x.broken(1) == x.about(5) - 1 && x.broken(0) == -2, true);
    }
}
