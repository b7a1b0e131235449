/** Promises 1 to 6, 47, and of 52 what the tape has. */
public final class TapeTest {
    public static void main(String[] args) {
        fresh();
        feedAndEnd();
        most();
        flips();
        cuts();
        Check.done("TapeTest");
    }

    // Promise 1
    private static void fresh() {
        HeapWorks x = new HeapWorks();
        for (int what = 0; what <= 12; what++) {
            Check.same("about " + what, x.about(what), 0);
        }
        Check.same("about 13", x.about(13), -1);
        Check.same("about -1", x.about(-1), -1);
        Check.same("letter", x.letter(0), -1);
        Check.same("NONE", HeapWorks.NONE, -1);
        Check.same("typeLook", x.typeLook(0, 0), -1);
        Check.same("object", x.object(0, 0), -1);
        Check.same("undo", x.undo(), -1);
        Check.same("collect", x.collect(), 0);
        Check.same("grown", x.grown(0), -1);
        Check.same("fault", x.fault(0), 0);
        Check.same("fault place", x.fault(1), -1);
        Check.same("fault 2", x.fault(2), -1);
        Check.same("facts", x.facts(0), -1);
        Check.same("rows", x.rows(0), -1);
        for (int p = 0; p < 4; p++) {
            Check.same("things", x.picture(p, 0), 0);
            Check.same("depth", x.picture(p, 5), -1);
            Check.same("lostThing", x.lostThing(p, 0), -1);
        }
        Check.same("reopen", x.reopen(100), 0);
    }

    // Promises 2, 3 and 47
    private static void feedAndEnd() {
        HeapWorks x = new HeapWorks();
        Check.same("end 2", x.end(2), 2);
        Check.same("ready was 0", x.letter(1), 0);
        x.feed(0x01020304, 0x05060708, 0x7F80FF00, -1, 0x11121314);
        Check.same("end -1", x.end(-1), -1);
        Check.same("end 21", x.end(21), -1);
        Check.same("nothing came", x.about(0), 2);
        Check.same("end 20", x.end(20), 22);
        int[] due = {0, 0, 1, 2, 3, 4, 5, 6, 7, 8, 127, 128, 255, 0, 255, 255, 255, 255, 17, 18, 19, 20};
        for (int k = 0; k < due.length; k++) {
            Check.same("letter " + k, x.letter(k), due[k]);
        }
        Check.same("letter 22", x.letter(22), -1);
        Check.same("letter -1", x.letter(-1), -1);
        Check.same("end 1", x.end(1), 23);
        Check.same("ready is 0 again", x.letter(22), 0);
        x.feed(-1, -1, -1, -1, -1);
        Check.same("end 0", x.end(0), 23);
        Check.same("end 1", x.end(1), 24);
        Check.same("0 behind end(0) too", x.letter(23), 0);
        // Promise 4
        x.wipe();
        Check.same("wiped", x.about(0), 0);
        Check.same("wiped letter", x.letter(0), -1);
    }

    private static void most() {
        HeapWorks x = new HeapWorks();
        for (int k = 1; k <= 199; k++) {
            Check.same("end", x.end(20), 20 * k);
        }
        Check.same("end", x.end(19), 3999);
        x.feed(0x41420000, 0, 0, 0, 0);
        Check.same("too many", x.end(2), -1);
        Check.same("as many", x.about(0), 3999);
        Check.same("the last one", x.end(1), 4000);
        Check.same("it stayed ready", x.letter(3999), 0x41);
        Check.same("full", x.end(1), -1);
        Check.same("none", x.end(0), 4000);
    }

    // Promise 5
    private static void flips() {
        Check c = new Check();
        c.tape(0, 255);
        Check.same("flip", c.x.flip(0, 0), true);
        Check.same("flip", c.x.flip(0, 7), true);
        Check.same("flip", c.x.flip(1, 3), true);
        Check.same("letter", c.x.letter(0), 129);
        Check.same("letter", c.x.letter(1), 247);
        Check.same("flip back", c.x.flip(0, 7), true);
        Check.same("letter", c.x.letter(0), 1);
        Check.same("no byte", c.x.flip(2, 0), false);
        Check.same("no byte", c.x.flip(-1, 0), false);
        Check.same("no bit", c.x.flip(0, 8), false);
        Check.same("no bit", c.x.flip(0, -1), false);
    }

    // Promise 6
    private static void cuts() {
        Check c = new Check();
        c.tape(1, 2, 3, 4);
        Check.same("cut 5", c.x.cut(5), false);
        Check.same("cut -1", c.x.cut(-1), false);
        Check.same("cut 4", c.x.cut(4), true);
        Check.same("cut 2", c.x.cut(2), true);
        Check.same("size", c.x.about(0), 2);
        Check.same("letter 1", c.x.letter(1), 2);
        Check.same("letter 2", c.x.letter(2), -1);
        Check.same("cut 0", c.x.cut(0), true);
        Check.same("size", c.x.about(0), 0);
    }
}
