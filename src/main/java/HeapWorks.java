import java.util.Arrays;
import java.util.NoSuchElementException;

/**
 * A microscope for heaps of objects. The document numbers what each call promises; the words in capitals here are
 * the document's terms.
 */
public final class HeapWorks {
    public static final int NONE = -1;

    private static final int PICTURES = 4;
    private static final int PROMISES = 3;
    private static final int UNBROKEN = NONE - 1;
    private static final int SPENT = 5;
    private static final int RULED_THINGS = 40;

    private final Tape tape;
    private final Types types;
    private final Heap heap;
    private final Journal journal;
    private final Picture[] pictures;
    private Picture spare;
    private final Program question;
    private final Machine machine;
    private final Program[] promised;
    private final int[] brokenBy;
    private int promiseCount;
    private final RuleText ruleText;
    private final FactBook factBook;
    private final Archive archive;
    private final int[] grownThings;
    private int grownCount;
    private int faultCode;
    private int faultPlace;

    public HeapWorks() {
        tape = new Tape();
        types = new Types();
        heap = new Heap(types);
        journal = new Journal(types);
        pictures = new Picture[PICTURES];
        for (int p = 0; p < PICTURES; p++) {
            pictures[p] = new Picture(types);
        }
        spare = new Picture(types);
        question = new Program(tape);
        machine = new Machine(types);
        promised = new Program[PROMISES];
        for (int k = 0; k < PROMISES; k++) {
            promised[k] = new Program(tape);
        }
        brokenBy = new int[PROMISES];
        ruleText = new RuleText(tape);
        factBook = new FactBook(types);
        archive = new Archive(types);
        grownThings = new int[Picture.THINGS];
        faultPlace = NONE;
    }

    // ---- the tape

    public void feed(int a, int b, int c, int d, int e) {
        tape.putReady(0, a);
        tape.putReady(4, b);
        tape.putReady(8, c);
        tape.putReady(12, d);
        tape.putReady(16, e);
    }

    public int end(int n) {
        return tape.takeReady(n);
    }

    public void wipe() {
        tape.size = 0;
    }

    public boolean flip(int i, int bit) {
        if (i < 0 || i >= tape.size || bit < 0 || bit > 7) {
            return false;
        }
        tape.bytes[i] ^= 1 << bit;
        return true;
    }

    public boolean cut(int n) {
        if (n < 0 || n > tape.size) {
            return false;
        }
        tape.size = n;
        return true;
    }

    public int letter(int i) {
        return i >= 0 && i < tape.size ? tape.bytes[i] : NONE;
    }

    // ---- classes

    public int type(int parent, int loader)
        throws IndexOutOfBoundsException, IllegalArgumentException, IllegalStateException {
        if (parent != NONE && !types.isClass(parent) || loader < 0 || loader >= Types.LOADERS) {
            throw new IndexOutOfBoundsException();
        }
        long name = tape.wholeName();
        if (name == 0) {
            throw new IllegalArgumentException();
        }
        if (types.count == Types.MOST || types.hasName(loader, name)) {
            throw new IllegalStateException();
        }
        tape.size = 0;
        return types.addClass(name, parent, loader);
    }

    public int field(int type, int kind, int link, boolean isStatic)
        throws IndexOutOfBoundsException, IllegalArgumentException, IllegalStateException {
        if (!types.isClass(type)) {
            throw new IndexOutOfBoundsException();
        }
        long name = tape.wholeName();
        if (name == 0 || kind < 0 || kind > Types.LINK || kind == Types.LINK && link != NONE && !types.isType(link)) {
            throw new IllegalArgumentException();
        }
        if (types.used[type] || types.fieldCount[type] == Types.FIELDS || types.hasFieldNamed(type, name)) {
            throw new IllegalStateException();
        }
        tape.size = 0;
        int k = types.addField(type, name, kind, kind == Types.LINK ? link : NONE, isStatic);
        heap.statics[type * Types.FIELDS + k] = Types.firstValue(kind);
        return k;
    }

    public int typeLook(int type, int what) {
        if (!types.isClass(type)) {
            return NONE;
        }
        switch (what) {
            case 0: return types.parent[type];
            case 1: return types.loader[type];
            case 2: return types.fieldCount[type];
            case 3: return types.slotCount[type];
            case 4: return types.sizeOf(type, 0);
            case 5: return types.used[type] ? 1 : 0;
            case 6: return types.staticCount[type];
            case 7: return heap.countOf(type);
            default: return NONE;
        }
    }

    public int fieldLook(int type, int k, int what) {
        if (!types.hasField(type, k)) {
            return NONE;
        }
        int own = type * Types.FIELDS + k;
        switch (what) {
            case 0: return types.fieldKind[own];
            case 1: return types.fieldLink[own];
            case 2: return types.fieldStatic[own] ? 1 : 0;
            case 3: return types.fieldPlace[own];
            case 4: return types.fieldStatic[own] ? NONE : types.firstByte(type, k);
            default: return NONE;
        }
    }

    // ---- the heap

    public int make(int type, int length) throws IllegalArgumentException, IllegalStateException {
        if (!types.isType(type) || Types.isArray(type) && (length < 0 || length > Types.LENGTH)) {
            throw new IllegalArgumentException();
        }
        int fullLength = Types.isArray(type) ? length : 0;
        if (!heap.hasRoom(1, types.slotsOf(type, fullLength))) {
            throw new IllegalStateException();
        }
        return heap.create(type, fullLength);
    }

    public void root(int object, boolean on) throws NoSuchElementException, IllegalStateException {
        if (!heap.isThere(object)) {
            throw new NoSuchElementException();
        }
        int place = heap.rootPlace(object);
        if (on && place == NONE) {
            if (heap.rootCount == Heap.ROOTS) {
                throw new IllegalStateException();
            }
            heap.roots[heap.rootCount] = object;
            heap.rootCount++;
        }
        if (!on && place != NONE) {
            heap.dropRoot(place);
        }
    }

    public int set(int object, int slot, long value) throws NoSuchElementException, IllegalArgumentException {
        if (!heap.hasSlot(object, slot)) {
            throw new NoSuchElementException();
        }
        int type = heap.type[object];
        if (!heap.isValue(types.kindAt(type, slot), types.linkAt(type, slot), value)) {
            throw new IllegalArgumentException();
        }
        int write = journal.writeSlot(heap, object, slot, value);
        checkPromises(write);
        return write;
    }

    public int setStatic(int type, int k, long value) throws NoSuchElementException, IllegalArgumentException {
        int f = types.staticField(type, k);
        if (f == NONE) {
            throw new NoSuchElementException();
        }
        int own = type * Types.FIELDS + f;
        if (!heap.isValue(types.fieldKind[own], types.fieldLink[own], value)) {
            throw new IllegalArgumentException();
        }
        int write = journal.writeStatic(heap, own, value);
        checkPromises(write);
        return write;
    }

    public long get(int object, int slot) throws NoSuchElementException {
        if (!heap.hasSlot(object, slot)) {
            throw new NoSuchElementException();
        }
        return heap.value[heap.first[object] + slot];
    }

    public long getStatic(int type, int k) throws NoSuchElementException {
        int f = types.staticField(type, k);
        if (f == NONE) {
            throw new NoSuchElementException();
        }
        return heap.statics[type * Types.FIELDS + f];
    }

    public int object(int object, int what) {
        if (!heap.isThere(object)) {
            return NONE;
        }
        switch (what) {
            case 0: return heap.type[object];
            case 1: return heap.length[object];
            case 2: return types.sizeOf(heap.type[object], heap.length[object]);
            default: return NONE;
        }
    }

    public int collect() {
        journal.forgetUndo();
        return heap.dropUnreached();
    }

    public int undo() {
        return journal.takeBack(heap);
    }

    public int swap(int a, int b) throws NoSuchElementException, IllegalArgumentException {
        if (!heap.isThere(a) || !heap.isThere(b)) {
            throw new NoSuchElementException();
        }
        if (a == b || !heap.canSwap(a, b)) {
            throw new IllegalArgumentException();
        }
        int count = journal.swapSlots(heap, a, b) + journal.swapStatics(heap, a, b);
        heap.swapRoots(a, b);
        if (count > 0) {
            checkPromises(journal.writes - 1);
        }
        return count;
    }

    public int copy(int object, int way)
        throws NoSuchElementException, IllegalArgumentException, IllegalStateException {
        if (!heap.isThere(object)) {
            throw new NoSuchElementException();
        }
        if (way < Heap.ALONE || way > Heap.APART) {
            throw new IllegalArgumentException();
        }
        int made = heap.duplicate(object, way);
        if (made == NONE) {
            throw new IllegalStateException();
        }
        return made;
    }

    public boolean apart(int type, boolean on) {
        if (!types.isClass(type)) {
            return false;
        }
        types.apart[type] = on;
        return true;
    }

    // ---- watches and promises

    public int watch(int type, int k, int condition)
        throws NoSuchElementException, IllegalArgumentException, IllegalStateException {
        if (!types.hasField(type, k)) {
            throw new NoSuchElementException();
        }
        if (condition < 0 || condition > Journal.GREATER) {
            throw new IllegalArgumentException();
        }
        if (journal.watches == Journal.WATCHES) {
            throw new IllegalStateException();
        }
        return journal.addWatch(type, k, condition);
    }

    public int rows(int watch) {
        return watch >= 0 && watch < journal.watches ? journal.rowCount[watch] : NONE;
    }

    public long row(int watch, int k, int what) throws NoSuchElementException {
        if (k < 0 || k >= rows(watch) || what < 0 || what >= Journal.PARTS) {
            throw new NoSuchElementException();
        }
        return journal.rowPart(watch, k, what);
    }

    public int promise() throws IllegalStateException, IllegalArgumentException {
        if (promiseCount == PROMISES) {
            throw new IllegalStateException();
        }
        Program program = promised[promiseCount];
        boolean read = program.readPromise();
        tellFault(program.fault, program.place);
        if (!read) {
            throw new IllegalArgumentException();
        }
        spare.takeFrom(heap);
        brokenBy[promiseCount] = machine.run(program, spare) && machine.saysTrue() ? UNBROKEN : NONE;
        promiseCount++;
        return promiseCount - 1;
    }

    public int broken(int promise) throws NoSuchElementException {
        if (promise < 0 || promise >= promiseCount) {
            throw new NoSuchElementException();
        }
        return brokenBy[promise];
    }

    private void checkPromises(int write) {
        boolean taken = false;
        for (int k = 0; k < promiseCount; k++) {
            if (brokenBy[k] != UNBROKEN) {
                continue;
            }
            if (!taken) {
                spare.takeFrom(heap);
                taken = true;
            }
            if (!machine.run(promised[k], spare) || !machine.saysTrue()) {
                brokenBy[k] = write;
            }
        }
    }

    // ---- pictures

    public int take(int p) throws IndexOutOfBoundsException {
        needPicture(p);
        pictures[p].takeFrom(heap);
        return pictures[p].things;
    }

    public int thing(int p, int t, int what) {
        if (!isThing(p, t)) {
            return NONE;
        }
        Picture picture = pictures[p];
        switch (what) {
            case 0: return picture.object[t];
            case 1: return picture.type[t];
            case 2: return picture.length[t];
            case 3: return types.sizeOf(picture.type[t], picture.length[t]);
            case 4: return picture.depth[t];
            case 5: return picture.wayThing[t];
            case 6: return picture.waySlot[t];
            case 7: return picture.holdersOf(t);
            case 8: return picture.dominatorOf(t);
            case 9: return picture.keptBy(t);
            case 10: return picture.dominatedBy(t);
            case 11: return picture.ringOf(t);
            case 12: return picture.twinOf(t);
            default: return NONE;
        }
    }

    public long slot(int p, int t, int k) throws NoSuchElementException {
        if (!isThing(p, t) || k < 0 || k >= pictures[p].first[t + 1] - pictures[p].first[t]) {
            throw new NoSuchElementException();
        }
        return pictures[p].value[pictures[p].first[t] + k];
    }

    public int holder(int p, int t, int k, int what) throws NoSuchElementException {
        if (!isThing(p, t) || k < 0 || k >= pictures[p].holdersOf(t) || what < 0 || what > 1) {
            throw new NoSuchElementException();
        }
        Shape shape = pictures[p].shape;
        int at = shape.holderFirst[t] + k;
        return what == 0 ? shape.holderThing[at] : shape.holderSlot[at];
    }

    public int picture(int p, int what) {
        if (!isPicture(p)) {
            return NONE;
        }
        Picture picture = pictures[p];
        switch (what) {
            case 0: return picture.things;
            case 1: return picture.ringCount();
            case 2: return picture.twinCount();
            case 3: return picture.allSizes(types);
            case 4: return picture.doubledSizes(types);
            case 5: return picture.things == 0 ? NONE : picture.depth[picture.things - 1];
            default: break;
        }
        if (what >= 200) {
            return types.isClass(what - 200) ? picture.countHeirs(types, what - 200) : NONE;
        }
        return what >= 100 && types.isClass(what - 100) ? picture.countOf(what - 100) : NONE;
    }

    public int member(int p, int way, int number, int k) throws NoSuchElementException {
        if (!isPicture(p) || way < 0 || way > 1 || number < 0 || k < 0) {
            throw new NoSuchElementException();
        }
        int found = way == 0 ? pictures[p].ringMember(number, k) : pictures[p].twinMember(number, k);
        if (found == NONE) {
            throw new NoSuchElementException();
        }
        return found;
    }

    public boolean choose(int p, int t, boolean on) {
        if (!isThing(p, t)) {
            return false;
        }
        pictures[p].chosen[t] = on;
        return true;
    }

    public int lost(int p) throws IndexOutOfBoundsException {
        needPicture(p);
        return pictures[p].findLost();
    }

    public int lostThing(int p, int k) {
        return isPicture(p) && k >= 0 && k < pictures[p].lostCount ? pictures[p].lostThings[k] : NONE;
    }

    public int growth(int p, int q, int what) throws IndexOutOfBoundsException {
        needPicture(p);
        needPicture(q);
        if (what < 0 || what > 2) {
            throw new IndexOutOfBoundsException();
        }
        if (what == 0) {
            grownCount = pictures[q].listMissing(pictures[p], grownThings);
        } else if (what == 1) {
            grownCount = pictures[p].listMissing(pictures[q], grownThings);
        } else {
            grownCount = pictures[q].listChanged(pictures[p], grownThings);
        }
        return grownCount;
    }

    public int grown(int k) {
        return k >= 0 && k < grownCount ? grownThings[k] : NONE;
    }

    public boolean like(int p, int t, int q, int u) throws NoSuchElementException {
        if (!isThing(p, t) || !isThing(q, u)) {
            throw new NoSuchElementException();
        }
        return pictures[p].isLike(t, pictures[q], u);
    }

    private static boolean isPicture(int p) {
        return p >= 0 && p < PICTURES;
    }

    private boolean isThing(int p, int t) {
        return isPicture(p) && t >= 0 && t < pictures[p].things;
    }

    private static void needPicture(int p) {
        if (!isPicture(p)) {
            throw new IndexOutOfBoundsException();
        }
    }

    // ---- questions and rules

    public int ask(int p) throws IndexOutOfBoundsException, IllegalArgumentException {
        needPicture(p);
        machine.rowCount = 0;
        boolean read = question.readQuestion();
        tellFault(question.fault, question.place);
        if (read && !machine.run(question, pictures[p])) {
            machine.rowCount = 0;
            tellFault(SPENT, NONE);
        }
        if (faultCode != 0) {
            throw new IllegalArgumentException();
        }
        return machine.rowCount;
    }

    public long answer(int k, int what) throws NoSuchElementException {
        if (k < 0 || k >= machine.rowCount || what < 0 || what > 2) {
            throw new NoSuchElementException();
        }
        if (what == 0) {
            return machine.rowThing[k];
        }
        return what == 1 ? machine.rowSort[k] : machine.rowValue[k];
    }

    public int rules(int p) throws IndexOutOfBoundsException, IllegalStateException, IllegalArgumentException {
        needPicture(p);
        if (pictures[p].things > RULED_THINGS) {
            throw new IllegalStateException();
        }
        boolean read = ruleText.readAll();
        tellFault(ruleText.fault, ruleText.place);
        if (!read) {
            throw new IllegalArgumentException();
        }
        factBook.workOut(ruleText, pictures[p]);
        int all = 0;
        for (int k = 0; k < ruleText.relations; k++) {
            all += factBook.countOf(k);
        }
        return all;
    }

    public int facts(int k) {
        return k >= 0 && k < ruleText.relations ? factBook.countOf(k) : NONE;
    }

    public boolean isFact(int k, int a, int b) throws NoSuchElementException {
        if (k < 0 || k >= ruleText.relations) {
            throw new NoSuchElementException();
        }
        return factBook.has(k, a, ruleText.arity[k] == 1 ? a : b);
    }

    public int fault(int what) {
        if (what == 0) {
            return faultCode;
        }
        return what == 1 ? faultPlace : NONE;
    }

    private void tellFault(int code, int place) {
        faultCode = code;
        faultPlace = code == 0 ? NONE : place;
    }

    // ---- bytes and the log

    public int bytes(int p) throws IndexOutOfBoundsException, IllegalStateException {
        needPicture(p);
        int size = archive.encode(pictures[p]);
        if (size > Tape.MOST) {
            throw new IllegalStateException();
        }
        System.arraycopy(archive.buffer, 0, tape.bytes, 0, size);
        tape.size = size;
        return size;
    }

    public int load(int p) throws IndexOutOfBoundsException, IllegalArgumentException {
        needPicture(p);
        boolean read = archive.decode(tape.bytes, 0, tape.size, spare);
        tellFault(archive.fault, archive.place);
        if (!read) {
            throw new IllegalArgumentException();
        }
        for (int t = 0; t < spare.things; t++) {
            types.use(spare.type[t]);
        }
        return exchange(p);
    }

    public int keep(int p) throws IndexOutOfBoundsException, IllegalStateException {
        needPicture(p);
        int size = archive.encode(pictures[p]);
        if (size > Tape.MOST || !archive.append(size)) {
            throw new IllegalStateException();
        }
        return archive.records;
    }

    public int reopen(int n) {
        return archive.reopenAt(n, spare);
    }

    public int recall(int p, int k) throws IndexOutOfBoundsException, NoSuchElementException {
        needPicture(p);
        if (k < 0 || k >= archive.records || !archive.readRecord(k, spare)) {
            throw new NoSuchElementException();
        }
        return exchange(p);
    }

    // The spare picture, just read, takes the place of a picture: how many things it has.
    private int exchange(int p) {
        Picture old = pictures[p];
        pictures[p] = spare;
        spare = old;
        return pictures[p].things;
    }

    public int about(int what) {
        switch (what) {
            case 0: return tape.size;
            case 1: return types.count;
            case 2: return heap.there;
            case 3: return heap.slots;
            case 4: return heap.rootCount;
            case 5: return journal.writes;
            case 6: return journal.undoCount;
            case 7: return archive.records;
            case 8: return archive.logSize;
            case 9: return journal.watches;
            case 10: return promiseCount;
            case 11: return machine.rowCount;
            case 12: return ruleText.relations;
            default: return NONE;
        }
    }

    /** The bytes that were fed, and the words that stand on them. */
    private static final class Tape {
        static final int MOST = 4000;

        static final int END = 0;
        static final int BAD = 1;
        static final int NAME = 2;
        static final int NUMBER = 3;
        static final int OPEN = 4;
        static final int CLOSE = 5;
        static final int OPEN_INDEX = 6;
        static final int CLOSE_INDEX = 7;
        static final int COMMA = 8;
        static final int COLON = 9;
        static final int SEMICOLON = 10;
        static final int DOT = 11;
        static final int EQUAL = 12;
        static final int LESS = 13;
        static final int GREATER = 14;
        static final int PLUS = 15;
        static final int MINUS = 16;
        static final int TIMES = 17;
        static final int DIVIDE = 18;
        static final int REST = 19;
        static final int UNEQUAL = 20;
        static final int LESS_EQUAL = 21;
        static final int GREATER_EQUAL = 22;

        // Keywords are words from KEYWORD on, in the order of KEYWORDS.
        static final int KEYWORD = 30;
        static final int ALL = 30;
        static final int OWN = 31;
        static final int THINGS = 32;
        static final int THING = 33;
        static final int WHERE = 34;
        static final int GET = 35;
        static final int AND = 36;
        static final int OR = 37;
        static final int NOT = 38;
        static final int NULL = 39;
        static final int TRUE = 40;
        static final int FALSE = 41;
        static final int IS = 42;
        static final int IN = 43;
        static final int COUNT = 44;
        static final int SUM = 45;
        static final int MOST_OF = 46;
        static final int LEAST_OF = 47;
        static final int SOME = 48;
        static final int EACH = 49;
        static final int SIZE = 50;
        static final int KEPT = 51;
        static final int DEPTH = 52;
        static final int LENGTH = 53;
        static final int SLOTS = 55;
        static final int HELD = 56;
        static final int FROM = 57;
        static final int IT = 58;

        private static final int READY = 20;
        private static final int NAME_LENGTH = 10;
        private static final int NUMBER_LENGTH = 18;
        private static final int KEYWORD_COUNT = 29;
        private static final String KEYWORDS = "all own things thing where get and or not null true false is in count sum most least some each size kept depth length class slots held from it ";
        private static final String SIGNS = "()[],:;.=<>+-*/%";

        final int[] bytes;
        int size;
        private final int[] ready;
        private final long[] keywords;
        private int at;
        private final int[] words;
        private final int[] places;
        private final long[] codes;
        private int next;
        int word;
        int place;
        long code;

        Tape() {
            bytes = new int[MOST];
            ready = new int[READY];
            words = new int[MOST + 1];
            places = new int[MOST + 1];
            codes = new long[MOST + 1];
            keywords = new long[KEYWORD_COUNT];
            int k = 0;
            long packed = 0;
            for (int i = 0; i < KEYWORDS.length(); i++) {
                if (KEYWORDS.charAt(i) != ' ') {
                    packed = packed * 64 + symbolOf(KEYWORDS.charAt(i));
                } else if (k < KEYWORD_COUNT) {
                    keywords[k] = packed;
                    packed = 0;
                    k++;
                }
            }
        }

        void putReady(int from, int four) {
            for (int k = 0; k < 4 && from + k < READY; k++) {
                ready[from + k] = four >>> (24 - 8 * k) & 255;
            }
        }

        int takeReady(int n) {
            if (n < 0 || n > READY || size + n > MOST) {
                return NONE;
            }
            System.arraycopy(ready, 0, bytes, size, n);
            size += n;
            Arrays.fill(ready, 0);
            return size;
        }

        // A letter's or digit's number 1 .. 62; 0 of all else. Ten of them, six bits each, make a name's code.
        private static int symbolOf(int b) {
            if (b >= 'A' && b <= 'Z') {
                return b - 'A' + 1;
            }
            if (b >= 'a' && b <= 'z') {
                return b - 'a' + 27;
            }
            return isDigit(b) ? b - '0' + 53 : 0;
        }

        private static boolean isDigit(int b) {
            return b >= '0' && b <= '9';
        }

        static long codeOf(String text) {
            long packed = 0;
            for (int i = 0; i < text.length(); i++) {
                packed = packed * 64 + symbolOf(text.charAt(i));
            }
            return packed;
        }

        private int keywordOf(long name) {
            for (int k = 0; k < KEYWORD_COUNT; k++) {
                if (keywords[k] == name) {
                    return KEYWORD + k;
                }
            }
            return NONE;
        }

        // The code of the name that the whole tape is; 0 if it is none.
        long wholeName() {
            if (size > NAME_LENGTH) {
                return 0;
            }
            at = 0;
            scanWord();
            return word == NAME && place == 0 && at == size ? code : 0;
        }

        // Splits the tape into words and goes to the first.
        void startWords() {
            at = 0;
            int count = 0;
            do {
                scanWord();
                words[count] = word;
                places[count] = place;
                codes[count] = code;
                count++;
            } while (word != END && count <= MOST);
            next = 0;
            nextWord();
        }

        // Goes to the next word; behind the last one it is END for ever.
        void nextWord() {
            word = words[next];
            place = places[next];
            code = codes[next];
            if (word != END && next < MOST) {
                next++;
            }
        }

        private void scanWord() {
            while (at < size && isBlank(bytes[at])) {
                at++;
            }
            place = at;
            code = 0;
            if (at >= size) {
                word = END;
            } else if (isDigit(bytes[at])) {
                scanNumber();
            } else if (symbolOf(bytes[at]) > 0) {
                scanName();
            } else {
                scanSign();
            }
        }

        private static boolean isBlank(int b) {
            return b == 9 || b == 10 || b == 13 || b == 32;
        }

        private void scanNumber() {
            while (at < size && isDigit(bytes[at])) {
                code = code * 10 + bytes[at] - '0';
                at++;
            }
            word = at - place > NUMBER_LENGTH ? BAD : NUMBER;
        }

        private void scanName() {
            while (at < size && symbolOf(bytes[at]) > 0) {
                code = code * 64 + symbolOf(bytes[at]);
                at++;
            }
            if (at - place > NAME_LENGTH) {
                word = BAD;
                return;
            }
            int keyword = keywordOf(code);
            word = keyword == NONE ? NAME : keyword;
        }

        private void scanSign() {
            int b = bytes[at];
            at++;
            int sign = SIGNS.indexOf((char) b);
            word = sign < 0 ? BAD : OPEN + sign;
            if (at >= size || bytes[at] != '=') {
                return;
            }
            if (b == '!') {
                word = UNEQUAL;
            } else if (b == '<') {
                word = LESS_EQUAL;
            } else if (b == '>') {
                word = GREATER_EQUAL;
            } else {
                return;
            }
            at++;
        }
    }

    /** The classes with their fields, what fits what, and how much place it takes. */
    private static final class Types {
        static final int MOST = 16;
        static final int FIELDS = 6;
        static final int LOADERS = 4;
        static final int LENGTH = 60;
        static final int LINK = 5;

        static final int NUMBERS = 20;
        static final int HIGHEST = 45;

        private static final int SLOTS = MOST * FIELDS;
        private static final int ANY_LINKS = 29;
        private static final int CLASS_LINKS = 30;
        private static final int LAST_NUMBERS = 24;
        private static final int HEADER = 12;
        private static final int ARRAY_HEADER = 16;
        private static final int[] WIDTH = {1, 1, 2, 4, 8, 4};

        int count;
        final long[] name;
        final int[] loader;
        final int[] parent;
        final boolean[] used;
        final boolean[] apart;
        final int[] fieldCount;
        final int[] staticCount;
        final int[] slotCount;
        final int[] fieldsEnd;
        final long[] fieldName;
        final int[] fieldKind;
        final int[] fieldLink;
        final boolean[] fieldStatic;
        final int[] fieldPlace;
        final long[] slotName;
        final int[] slotKind;
        final int[] slotLink;

        Types() {
            name = new long[MOST];
            loader = new int[MOST];
            parent = new int[MOST];
            used = new boolean[MOST];
            apart = new boolean[MOST];
            fieldCount = new int[MOST];
            staticCount = new int[MOST];
            slotCount = new int[MOST];
            fieldsEnd = new int[MOST];
            fieldName = new long[SLOTS];
            fieldKind = new int[SLOTS];
            fieldLink = new int[SLOTS];
            fieldStatic = new boolean[SLOTS];
            fieldPlace = new int[SLOTS];
            slotName = new long[MOST * SLOTS];
            slotKind = new int[MOST * SLOTS];
            slotLink = new int[MOST * SLOTS];
        }

        boolean isClass(int type) {
            return type >= 0 && type < count;
        }

        static boolean isArray(int type) {
            return type >= NUMBERS;
        }

        boolean isType(int type) {
            return isClass(type) || type >= NUMBERS && type <= LAST_NUMBERS || type == ANY_LINKS
                || type >= CLASS_LINKS && isClass(type - CLASS_LINKS);
        }

        boolean hasName(int ofLoader, long wanted) {
            for (int c = 0; c < count; c++) {
                if (loader[c] == ofLoader && name[c] == wanted) {
                    return true;
                }
            }
            return false;
        }

        boolean hasFieldNamed(int type, long wanted) {
            for (int k = 0; k < fieldCount[type]; k++) {
                if (fieldName[type * FIELDS + k] == wanted) {
                    return true;
                }
            }
            return false;
        }

        boolean hasField(int type, int k) {
            return isClass(type) && k >= 0 && k < fieldCount[type];
        }

        int addClass(long named, int under, int loadedBy) {
            int c = count;
            count++;
            name[c] = named;
            parent[c] = under;
            loader[c] = loadedBy;
            fieldsEnd[c] = HEADER;
            if (under != NONE) {
                used[under] = true;
                fieldsEnd[c] = fieldsEnd[under];
                slotCount[c] = slotCount[under];
                System.arraycopy(slotName, under * SLOTS, slotName, c * SLOTS, slotCount[c]);
                System.arraycopy(slotKind, under * SLOTS, slotKind, c * SLOTS, slotCount[c]);
                System.arraycopy(slotLink, under * SLOTS, slotLink, c * SLOTS, slotCount[c]);
            }
            return c;
        }

        int addField(int type, long named, int kind, int link, boolean isStatic) {
            int k = fieldCount[type];
            int own = type * FIELDS + k;
            fieldCount[type]++;
            fieldName[own] = named;
            fieldKind[own] = kind;
            fieldLink[own] = link;
            fieldStatic[own] = isStatic;
            if (isStatic) {
                fieldPlace[own] = staticCount[type];
                staticCount[type]++;
                return k;
            }
            int slot = type * SLOTS + slotCount[type];
            fieldPlace[own] = slotCount[type];
            slotCount[type]++;
            slotName[slot] = named;
            slotKind[slot] = kind;
            slotLink[slot] = link;
            fieldsEnd[type] = firstByte(type, NONE);
            return k;
        }

        // Which own field static k of a class is; NONE if there is none.
        int staticField(int type, int k) {
            if (!isClass(type) || k < 0 || k >= staticCount[type]) {
                return NONE;
            }
            for (int f = 0; f < fieldCount[type]; f++) {
                int own = type * FIELDS + f;
                if (fieldStatic[own] && fieldPlace[own] == k) {
                    return f;
                }
            }
            return NONE;
        }

        // Own field f of class c stands at c * FIELDS + f in the rows of fields; what is behind the last one of a class
        // is no static, so that a loop over these places meets all fields, class by class.
        int ownFields() {
            return count * FIELDS;
        }

        boolean isLinkStatic(int own) {
            return fieldStatic[own] && fieldKind[own] == LINK;
        }

        void use(int type) {
            if (isClass(type)) {
                used[type] = true;
            }
        }

        // Where own field k begins in the LAYOUT; without such a field, where the fields end.
        int firstByte(int type, int k) {
            int end = parent[type] == NONE ? HEADER : fieldsEnd[parent[type]];
            for (int width = 8; width >= 1; width /= 2) {
                for (int f = 0; f < fieldCount[type]; f++) {
                    int own = type * FIELDS + f;
                    if (fieldStatic[own] || WIDTH[fieldKind[own]] != width) {
                        continue;
                    }
                    int begin = (end + width - 1) / width * width;
                    if (f == k) {
                        return begin;
                    }
                    end = begin + width;
                }
            }
            return end;
        }

        int sizeOf(int type, int length) {
            int end = isArray(type) ? ARRAY_HEADER + length * WIDTH[kindAt(type, 0)] : fieldsEnd[type];
            return (end + 7) / 8 * 8;
        }

        int slotsOf(int type, int length) {
            return isArray(type) ? length : slotCount[type];
        }

        int kindAt(int type, int slot) {
            if (type >= ANY_LINKS) {
                return LINK;
            }
            return type >= NUMBERS ? type - NUMBERS : slotKind[type * SLOTS + slot];
        }

        // The TYPE that a link in a slot must fit.
        int linkAt(int type, int slot) {
            if (type >= CLASS_LINKS) {
                return type - CLASS_LINKS;
            }
            return type >= NUMBERS ? NONE : slotLink[type * SLOTS + slot];
        }

        // The slot that a class's objects have under a name, the nearest class's first; NONE without one.
        int slotNamed(int type, long wanted) {
            for (int k = slotCount[type] - 1; k >= 0; k--) {
                if (slotName[type * SLOTS + k] == wanted) {
                    return k;
                }
            }
            return NONE;
        }

        boolean isHeir(int type, int of) {
            int c = type;
            for (int k = 0; k < MOST && c != NONE; k++) {
                if (c == of) {
                    return true;
                }
                c = parent[c];
            }
            return false;
        }

        // Whether a type is a class that IS one of that name.
        boolean isNamed(int type, long wanted) {
            int c = isArray(type) ? NONE : type;
            for (int k = 0; k < MOST && c != NONE; k++) {
                if (name[c] == wanted) {
                    return true;
                }
                c = parent[c];
            }
            return false;
        }

        boolean isApart(int type) {
            int c = isArray(type) ? NONE : type;
            for (int k = 0; k < MOST && c != NONE; k++) {
                if (apart[c]) {
                    return true;
                }
                c = parent[c];
            }
            return false;
        }

        boolean fits(int type, int wanted) {
            if (wanted == NONE || wanted == type) {
                return true;
            }
            if (!isArray(type)) {
                return !isArray(wanted) && isHeir(type, wanted);
            }
            if (type < CLASS_LINKS) {
                return false;
            }
            return wanted == ANY_LINKS || wanted >= CLASS_LINKS && isHeir(type - CLASS_LINKS, wanted - CLASS_LINKS);
        }

        static long firstValue(int kind) {
            return kind == LINK ? NONE : 0;
        }

        // Whether a number is of a kind that is no LINK.
        static boolean isNumber(int kind, long value) {
            if (kind == 0) {
                return value == 0 || value == 1;
            }
            int bits = 8 * WIDTH[kind];
            return bits == 64 || value >= -(1L << (bits - 1)) && value < 1L << (bits - 1);
        }
    }

    /** The objects that are there, the statics and the roots. */
    private static final class Heap {
        static final int MOST = 400;
        static final int SLOTS = 4000;
        static final int ROOTS = 12;

        static final int ALONE = 0;
        static final int APART = 2;

        final Types types;
        int made;
        int there;
        int slots;
        final int[] type;
        final int[] length;
        final int[] first;
        final long[] value;
        final boolean[] link;
        final long[] statics;
        final int[] roots;
        int rootCount;
        private final int[] order;
        private final int[] mark;

        Heap(Types known) {
            types = known;
            type = new int[MOST];
            length = new int[MOST];
            first = new int[MOST];
            value = new long[SLOTS];
            link = new boolean[SLOTS];
            statics = new long[Types.MOST * Types.FIELDS];
            roots = new int[ROOTS];
            order = new int[MOST];
            mark = new int[MOST];
        }

        boolean isThere(int object) {
            return object >= 0 && object < made && type[object] != NONE;
        }

        int slotsOf(int object) {
            return types.slotsOf(type[object], length[object]);
        }

        boolean hasSlot(int object, int slot) {
            return isThere(object) && slot >= 0 && slot < slotsOf(object);
        }

        boolean hasRoom(int objects, int moreSlots) {
            return made + objects <= MOST && slots + moreSlots <= SLOTS;
        }

        int countOf(int wanted) {
            int found = 0;
            for (int o = 0; o < made; o++) {
                if (type[o] == wanted) {
                    found++;
                }
            }
            return found;
        }

        // Whether a value may stand where that kind, and that type of a link, is asked for.
        boolean isValue(int kind, int wanted, long v) {
            if (kind != Types.LINK) {
                return Types.isNumber(kind, v);
            }
            if (v == NONE) {
                return true;
            }
            return v >= 0 && v < made && isThere((int) v) && types.fits(type[(int) v], wanted);
        }

        int create(int newType, int newLength) {
            int o = made;
            made++;
            there++;
            type[o] = newType;
            length[o] = newLength;
            first[o] = slots;
            types.use(newType);
            int count = types.slotsOf(newType, newLength);
            for (int k = 0; k < count; k++) {
                int kind = types.kindAt(newType, k);
                link[slots] = kind == Types.LINK;
                value[slots] = Types.firstValue(kind);
                slots++;
            }
            return o;
        }

        int rootPlace(int object) {
            for (int k = 0; k < rootCount; k++) {
                if (roots[k] == object) {
                    return k;
                }
            }
            return NONE;
        }

        void dropRoot(int place) {
            rootCount--;
            for (int k = place; k < rootCount; k++) {
                roots[k] = roots[k + 1];
            }
        }

        void swapRoots(int a, int b) {
            for (int k = 0; k < rootCount; k++) {
                if (roots[k] == a) {
                    roots[k] = b;
                } else if (roots[k] == b) {
                    roots[k] = a;
                }
            }
        }

        // Whether each of two objects fits wherever the other one is linked to.
        boolean canSwap(int a, int b) {
            for (int o = 0; o < made; o++) {
                int count = type[o] == NONE ? 0 : slotsOf(o);
                for (int k = 0; k < count; k++) {
                    int at = first[o] + k;
                    if (link[at] && !fitsSwapped(value[at], types.linkAt(type[o], k), a, b)) {
                        return false;
                    }
                }
            }
            for (int own = 0; own < types.ownFields(); own++) {
                if (types.isLinkStatic(own) && !fitsSwapped(statics[own], types.fieldLink[own], a, b)) {
                    return false;
                }
            }
            return true;
        }

        private boolean fitsSwapped(long linked, int wanted, int a, int b) {
            if (linked == a) {
                return types.fits(type[b], wanted);
            }
            return linked != b || types.fits(type[a], wanted);
        }

        private void clearMarks() {
            Arrays.fill(mark, 0, made, NONE);
        }

        // Puts an object into the order of a walk, unless it is there: how many are in it.
        private int meet(long object, int met) {
            if (object < 0 || object >= made || mark[(int) object] != NONE) {
                return met;
            }
            mark[(int) object] = met;
            order[met] = (int) object;
            return met + 1;
        }

        private int meetRoots() {
            int met = 0;
            for (int k = 0; k < rootCount; k++) {
                met = meet(roots[k], met);
            }
            for (int own = 0; own < types.ownFields(); own++) {
                if (types.isLinkStatic(own)) {
                    met = meet(statics[own], met);
                }
            }
            return met;
        }

        private int meetLinks(int object, int met) {
            int now = met;
            int end = first[object] + slotsOf(object);
            for (int at = first[object]; at < end; at++) {
                if (link[at]) {
                    now = meet(value[at], now);
                }
            }
            return now;
        }

        // Objects that no root reaches go: how many.
        int dropUnreached() {
            clearMarks();
            int met = meetRoots();
            for (int k = 0; k < met && k < made; k++) {
                met = meetLinks(order[k], met);
            }
            int gone = there - met;
            int free = 0;
            for (int o = 0; o < made; o++) {
                if (type[o] == NONE) {
                    continue;
                }
                int count = slotsOf(o);
                if (mark[o] == NONE) {
                    type[o] = NONE;
                    continue;
                }
                moveSlots(first[o], free, count);
                first[o] = free;
                free += count;
            }
            slots = free;
            there = met;
            return gone;
        }

        // Moves slots down, to where those of objects that went were.
        private void moveSlots(int from, int to, int count) {
            for (int k = 0; k < count; k++) {
                value[to + k] = value[from + k];
                link[to + k] = link[from + k];
            }
        }

        // Copies an object: the copy's number; NONE if there is no room.
        int duplicate(int object, int way) {
            int count = walkToCopy(object, way);
            int moreSlots = 0;
            for (int k = 0; k < count; k++) {
                moreSlots += slotsOf(order[k]);
            }
            if (!hasRoom(count, moreSlots)) {
                return NONE;
            }
            int base = made;
            for (int k = 0; k < count; k++) {
                create(type[order[k]], length[order[k]]);
            }
            for (int k = 0; k < count; k++) {
                copySlots(order[k], base + k, base);
            }
            return base;
        }

        // Puts what is copied with an object into the order of a walk: how many.
        private int walkToCopy(int object, int way) {
            clearMarks();
            int met = meet(object, 0);
            for (int k = 0; k < met && k < made && way != ALONE; k++) {
                int end = first[order[k]] + slotsOf(order[k]);
                for (int at = first[order[k]]; at < end; at++) {
                    if (link[at] && value[at] != NONE && (way != APART || !types.isApart(type[(int) value[at]]))) {
                        met = meet(value[at], met);
                    }
                }
            }
            return met;
        }

        private void copySlots(int from, int to, int base) {
            int count = slotsOf(from);
            for (int k = 0; k < count; k++) {
                long v = value[first[from] + k];
                boolean copied = link[first[from] + k] && v != NONE && mark[(int) v] != NONE;
                value[first[to] + k] = copied ? base + mark[(int) v] : v;
            }
        }
    }

    /** The writes: what can be undone, and what the watches saw. */
    private static final class Journal {
        static final int WATCHES = 6;
        static final int PARTS = 4;
        static final int GREATER = 3;

        private static final int CHANGED = 1;
        private static final int EMPTIED = 2;
        private static final int ROWS = 6;
        private static final int UNDOS = 100;

        private final Types types;
        int writes;
        private final int[] undoWrite;
        private final int[] undoPlace;
        private final long[] undoValue;
        private int undoStart;
        int undoCount;
        int watches;
        private final int[] watchType;
        private final int[] watchField;
        private final int[] watchCondition;
        final int[] rowCount;
        private final long[] rowParts;

        Journal(Types known) {
            types = known;
            undoWrite = new int[UNDOS];
            undoPlace = new int[UNDOS];
            undoValue = new long[UNDOS];
            watchType = new int[WATCHES];
            watchField = new int[WATCHES];
            watchCondition = new int[WATCHES];
            rowCount = new int[WATCHES];
            rowParts = new long[WATCHES * ROWS * PARTS];
        }

        int writeSlot(Heap heap, int object, int slot, long after) {
            int at = heap.first[object] + slot;
            long before = heap.value[at];
            heap.value[at] = after;
            remember(at, before);
            for (int w = 0; w < watches; w++) {
                int own = watchType[w] * Types.FIELDS + watchField[w];
                boolean meant = !types.fieldStatic[own] && types.fieldPlace[own] == slot
                    && !Types.isArray(heap.type[object]) && types.isHeir(heap.type[object], watchType[w]);
                if (meant && isCase(w, before, after)) {
                    addRow(w, object, before, after);
                }
            }
            writes++;
            return writes - 1;
        }

        int writeStatic(Heap heap, int own, long after) {
            long before = heap.statics[own];
            heap.statics[own] = after;
            remember(-1 - own, before);
            for (int w = 0; w < watches; w++) {
                if (watchType[w] * Types.FIELDS + watchField[w] == own && isCase(w, before, after)) {
                    addRow(w, NONE, before, after);
                }
            }
            writes++;
            return writes - 1;
        }

        int swapSlots(Heap heap, int a, int b) {
            int count = 0;
            for (int o = 0; o < heap.made; o++) {
                int slots = heap.type[o] == NONE ? 0 : heap.slotsOf(o);
                for (int k = 0; k < slots; k++) {
                    int at = heap.first[o] + k;
                    if (heap.link[at] && (heap.value[at] == a || heap.value[at] == b)) {
                        writeSlot(heap, o, k, heap.value[at] == a ? b : a);
                        count++;
                    }
                }
            }
            return count;
        }

        int swapStatics(Heap heap, int a, int b) {
            int count = 0;
            for (int own = 0; own < types.ownFields(); own++) {
                if (types.isLinkStatic(own) && (heap.statics[own] == a || heap.statics[own] == b)) {
                    writeStatic(heap, own, heap.statics[own] == a ? b : a);
                    count++;
                }
            }
            return count;
        }

        // Slots are remembered by their place, which stays until collect() forgets all; statics below 0.
        private void remember(int place, long before) {
            int k = (undoStart + undoCount) % UNDOS;
            undoWrite[k] = writes;
            undoPlace[k] = place;
            undoValue[k] = before;
            if (undoCount < UNDOS) {
                undoCount++;
            } else {
                undoStart = (undoStart + 1) % UNDOS;
            }
        }

        void forgetUndo() {
            undoCount = 0;
        }

        int takeBack(Heap heap) {
            if (undoCount == 0) {
                return NONE;
            }
            undoCount--;
            int k = (undoStart + undoCount) % UNDOS;
            if (undoPlace[k] >= 0) {
                heap.value[undoPlace[k]] = undoValue[k];
            } else {
                heap.statics[-1 - undoPlace[k]] = undoValue[k];
            }
            return undoWrite[k];
        }

        int addWatch(int type, int k, int condition) {
            watchType[watches] = type;
            watchField[watches] = k;
            watchCondition[watches] = condition;
            watches++;
            return watches - 1;
        }

        private boolean isCase(int watch, long before, long after) {
            int kind = types.fieldKind[watchType[watch] * Types.FIELDS + watchField[watch]];
            long empty = Types.firstValue(kind);
            switch (watchCondition[watch]) {
                case CHANGED: return before != after;
                case EMPTIED: return after == empty && before != empty;
                case GREATER: return kind == Types.LINK ? before == NONE && after != NONE : after > before;
                default: return true;
            }
        }

        private void addRow(int watch, int object, long before, long after) {
            int base = watch * ROWS * PARTS;
            if (rowCount[watch] == ROWS) {
                for (int k = base; k < base + (ROWS - 1) * PARTS; k++) {
                    rowParts[k] = rowParts[k + PARTS];
                }
                rowCount[watch]--;
            }
            int at = base + rowCount[watch] * PARTS;
            rowParts[at] = writes;
            rowParts[at + 1] = object;
            rowParts[at + 2] = before;
            rowParts[at + 3] = after;
            rowCount[watch]++;
        }

        long rowPart(int watch, int k, int what) {
            return rowParts[(watch * ROWS + k) * PARTS + what];
        }
    }

    /** What the roots reached at one time: things in the order of a walk, and the roots that link to them. */
    private static final class Picture {
        static final int THINGS = 400;
        static final int SLOTS = 4000;
        static final int ROOTS = 108;

        int things;
        final int[] object;
        final int[] type;
        final int[] length;
        final int[] first;
        final int[] depth;
        final int[] wayThing;
        final int[] waySlot;
        final int[] thingOf;
        final long[] value;
        final boolean[] link;
        int roots;
        final int[] rootNumber;
        final int[] rootThing;
        final boolean[] chosen;
        final int[] lostThings;
        int lostCount;
        private final int[] mark;
        private final int[] mate;
        private final int[] queue;
        final Shape shape;

        Picture(Types types) {
            object = new int[THINGS];
            type = new int[THINGS];
            length = new int[THINGS];
            first = new int[THINGS + 1];
            depth = new int[THINGS];
            wayThing = new int[THINGS];
            waySlot = new int[THINGS];
            thingOf = new int[Heap.MOST];
            Arrays.fill(thingOf, NONE);
            value = new long[SLOTS];
            link = new boolean[SLOTS];
            rootNumber = new int[ROOTS];
            rootThing = new int[ROOTS];
            chosen = new boolean[THINGS];
            lostThings = new int[THINGS];
            mark = new int[THINGS];
            mate = new int[THINGS];
            queue = new int[THINGS];
            shape = new Shape(types);
        }

        void forget() {
            for (int t = 0; t < things; t++) {
                thingOf[object[t]] = NONE;
                chosen[t] = false;
            }
            things = 0;
            roots = 0;
            lostCount = 0;
            shape.known = 0;
        }

        void takeFrom(Heap heap) {
            forget();
            for (int k = 0; k < heap.rootCount; k++) {
                meetRoot(heap, heap.roots[k], k);
            }
            int number = heap.rootCount;
            for (int own = 0; own < heap.types.ownFields(); own++) {
                if (heap.types.isLinkStatic(own)) {
                    meetRoot(heap, heap.statics[own], number);
                    number++;
                }
            }
            for (int t = 0; t < things && t < THINGS; t++) {
                takeSlots(heap, t);
            }
        }

        private void meetRoot(Heap heap, long o, int number) {
            if (o != NONE) {
                addRoot(number, meet(heap, (int) o, NONE, number));
            }
        }

        void addRoot(int number, int thing) {
            rootNumber[roots] = number;
            rootThing[roots] = thing;
            roots++;
        }

        private int meet(Heap heap, int o, int from, int slot) {
            if (thingOf[o] != NONE) {
                return thingOf[o];
            }
            int t = addThing(o, heap.type[o], heap.length[o], heap.slotsOf(o));
            setWay(t, from, slot);
            return t;
        }

        int addThing(int o, int ofType, int ofLength, int slots) {
            int t = things;
            things++;
            thingOf[o] = t;
            object[t] = o;
            type[t] = ofType;
            length[t] = ofLength;
            first[t + 1] = first[t] + slots;
            return t;
        }

        private void setWay(int t, int from, int slot) {
            wayThing[t] = from;
            waySlot[t] = slot;
            depth[t] = from == NONE ? 0 : depth[from] + 1;
        }

        private void takeSlots(Heap heap, int t) {
            int from = heap.first[object[t]];
            int count = first[t + 1] - first[t];
            for (int k = 0; k < count; k++) {
                long v = heap.value[from + k];
                boolean isLink = heap.link[from + k];
                link[first[t] + k] = isLink;
                value[first[t] + k] = isLink && v != NONE ? meet(heap, (int) v, t, k) : v;
            }
        }

        // Finds the WAYS of things that were read: the first thing that is not where a walk has it, or how many
        // things there are if all are so.
        int findWays() {
            int met = 0;
            for (int r = 0; r < roots; r++) {
                if (rootThing[r] > met) {
                    return met;
                }
                if (rootThing[r] == met) {
                    setWay(met, NONE, rootNumber[r]);
                    met++;
                }
            }
            for (int t = 0; t < met && t < things; t++) {
                for (int at = first[t]; at < first[t + 1]; at++) {
                    if (link[at] && value[at] > met) {
                        return met;
                    }
                    if (link[at] && value[at] == met) {
                        setWay(met, t, at - first[t]);
                        met++;
                    }
                }
            }
            return met;
        }

        int holdersOf(int t) {
            shape.needHolders(this);
            return shape.holderFirst[t + 1] - shape.holderFirst[t];
        }

        int dominatorOf(int t) {
            needDominators();
            return shape.dominator[t];
        }

        int keptBy(int t) {
            needDominators();
            return shape.kept[t];
        }

        int dominatedBy(int t) {
            needDominators();
            return shape.dominated[t];
        }

        private void needDominators() {
            shape.needHolders(this);
            shape.needDominators(this);
        }

        int ringOf(int t) {
            shape.needRings(this);
            return shape.ring[t];
        }

        int ringCount() {
            shape.needRings(this);
            return shape.rings;
        }

        int ringMember(int number, int k) {
            shape.needRings(this);
            return memberOf(shape.ring, number, k);
        }

        int twinOf(int t) {
            shape.needTwins(this);
            return shape.twin[t];
        }

        int twinCount() {
            shape.needTwins(this);
            return shape.twins;
        }

        int twinMember(int number, int k) {
            shape.needTwins(this);
            return memberOf(shape.twin, number, k);
        }

        private int memberOf(int[] groups, int number, int k) {
            int left = k;
            for (int t = 0; t < things; t++) {
                if (groups[t] == number) {
                    if (left == 0) {
                        return t;
                    }
                    left--;
                }
            }
            return NONE;
        }

        int allSizes(Types types) {
            int sum = 0;
            for (int t = 0; t < things; t++) {
                sum += types.sizeOf(type[t], length[t]);
            }
            return sum;
        }

        int doubledSizes(Types types) {
            shape.needTwins(this);
            int sum = 0;
            int fresh = 0;
            for (int t = 0; t < things; t++) {
                if (shape.twin[t] == fresh) {
                    fresh++;
                } else if (shape.twin[t] != NONE) {
                    sum += types.sizeOf(type[t], length[t]);
                }
            }
            return sum;
        }

        int countOf(int wanted) {
            int found = 0;
            for (int t = 0; t < things; t++) {
                if (type[t] == wanted) {
                    found++;
                }
            }
            return found;
        }

        int countHeirs(Types types, int wanted) {
            int found = 0;
            for (int t = 0; t < things; t++) {
                if (!Types.isArray(type[t]) && types.isHeir(type[t], wanted)) {
                    found++;
                }
            }
            return found;
        }

        // Lists the things that the chosen ones CUT: how many.
        int findLost() {
            Arrays.fill(mark, 0, things, 0);
            int met = 0;
            for (int r = 0; r < roots; r++) {
                met = reach(rootThing[r], met);
            }
            for (int k = 0; k < met && k < things; k++) {
                for (int at = first[queue[k]]; at < first[queue[k] + 1]; at++) {
                    if (link[at] && value[at] != NONE) {
                        met = reach((int) value[at], met);
                    }
                }
            }
            lostCount = 0;
            for (int t = 0; t < things; t++) {
                if (mark[t] == 0) {
                    lostThings[lostCount] = t;
                    lostCount++;
                }
            }
            return lostCount;
        }

        private int reach(int t, int met) {
            if (mark[t] != 0 || chosen[t]) {
                return met;
            }
            mark[t] = 1;
            queue[met] = t;
            return met + 1;
        }

        // Lists the things here whose objects another picture has not: how many.
        int listMissing(Picture other, int[] list) {
            int found = 0;
            for (int t = 0; t < things; t++) {
                if (other.thingOf[object[t]] == NONE) {
                    list[found] = t;
                    found++;
                }
            }
            return found;
        }

        // Lists the things here whose objects were otherwise in an earlier picture: how many.
        int listChanged(Picture before, int[] list) {
            int found = 0;
            for (int t = 0; t < things; t++) {
                int old = before.thingOf[object[t]];
                if (old != NONE && !isSame(t, before, old)) {
                    list[found] = t;
                    found++;
                }
            }
            return found;
        }

        private boolean isSame(int t, Picture other, int u) {
            if (type[t] != other.type[u] || length[t] != other.length[u]) {
                return false;
            }
            int shift = other.first[u] - first[t];
            for (int at = first[t]; at < first[t + 1]; at++) {
                long here = value[at];
                long there = other.value[at + shift];
                if (link[at]) {
                    here = here == NONE ? NONE : object[(int) here];
                    there = there == NONE ? NONE : other.object[(int) there];
                }
                if (here != there) {
                    return false;
                }
            }
            return true;
        }

        // Walks from both things at once; mark has the partners of the things here, mate those of the other's.
        boolean isLike(int t, Picture other, int u) {
            Arrays.fill(mark, 0, things, NONE);
            Arrays.fill(other.mate, 0, other.things, NONE);
            mark[t] = u;
            other.mate[u] = t;
            queue[0] = t;
            int met = 1;
            for (int k = 0; k < met && k < things; k++) {
                met = pairSlots(queue[k], other, met);
                if (met == NONE) {
                    return false;
                }
            }
            return true;
        }

        // Pairs what two partners link to: how many pairs were met; NONE if the two are not alike.
        private int pairSlots(int t, Picture other, int met) {
            int u = mark[t];
            if (type[t] != other.type[u] || length[t] != other.length[u]) {
                return NONE;
            }
            int now = met;
            int shift = other.first[u] - first[t];
            for (int at = first[t]; at < first[t + 1]; at++) {
                long here = value[at];
                long there = other.value[at + shift];
                if (!link[at] || here == NONE || there == NONE) {
                    if (here != there) {
                        return NONE;
                    }
                } else if (mark[(int) here] == NONE && other.mate[(int) there] == NONE) {
                    mark[(int) here] = (int) there;
                    other.mate[(int) there] = (int) here;
                    queue[now] = (int) here;
                    now++;
                } else if (mark[(int) here] != there) {
                    return NONE;
                }
            }
            return now;
        }
    }

    /** What is found out about a picture when it is first asked for: holders, dominators, rings and doubles. */
    private static final class Shape {
        private static final int HOLDERS = 1;
        private static final int DOMINATORS = 2;
        private static final int RINGS = 4;
        private static final int TWINS = 8;
        private static final int UNSET = NONE - 1;
        private static final int BUCKETS = 512;
        private static final int STEPS = 1000000;

        private final Types types;
        int known;
        final int[] holderFirst;
        final int[] holderThing;
        final int[] holderSlot;
        final int[] dominator;
        final int[] kept;
        final int[] dominated;
        final int[] ring;
        int rings;
        final int[] twin;
        int twins;
        private final int[] order;
        private final int[] low;
        private final int[] stack;
        private final int[] path;
        private final int[] cursor;
        private final int[] bucket;

        Shape(Types knownTypes) {
            types = knownTypes;
            holderFirst = new int[Picture.THINGS + 1];
            holderThing = new int[Picture.SLOTS + Picture.ROOTS];
            holderSlot = new int[Picture.SLOTS + Picture.ROOTS];
            dominator = new int[Picture.THINGS];
            kept = new int[Picture.THINGS];
            dominated = new int[Picture.THINGS];
            ring = new int[Picture.THINGS];
            twin = new int[Picture.THINGS];
            order = new int[Picture.THINGS];
            low = new int[Picture.THINGS];
            stack = new int[Picture.THINGS];
            path = new int[Picture.THINGS];
            cursor = new int[Picture.THINGS];
            bucket = new int[BUCKETS];
        }

        // Counts each thing's holders first, so that they can be put side by side in one row.
        void needHolders(Picture p) {
            if ((known & HOLDERS) != 0) {
                return;
            }
            known |= HOLDERS;
            Arrays.fill(holderFirst, 0, p.things + 1, 0);
            for (int r = 0; r < p.roots; r++) {
                holderFirst[p.rootThing[r] + 1]++;
            }
            for (int at = 0; at < p.first[p.things]; at++) {
                if (p.link[at] && p.value[at] != NONE) {
                    holderFirst[(int) p.value[at] + 1]++;
                }
            }
            for (int t = 0; t < p.things; t++) {
                holderFirst[t + 1] += holderFirst[t];
                cursor[t] = holderFirst[t];
            }
            for (int r = 0; r < p.roots; r++) {
                addHolder(p.rootThing[r], NONE, p.rootNumber[r]);
            }
            for (int t = 0; t < p.things; t++) {
                for (int at = p.first[t]; at < p.first[t + 1]; at++) {
                    if (p.link[at] && p.value[at] != NONE) {
                        addHolder((int) p.value[at], t, at - p.first[t]);
                    }
                }
            }
        }

        private void addHolder(int t, int thing, int slot) {
            holderThing[cursor[t]] = thing;
            holderSlot[cursor[t]] = slot;
            cursor[t]++;
        }

        // A dominator comes ahead in the walk, so numbers fall along a chain of dominators; NONE, the least number,
        // stands for what is above all roots. Holders must be known.
        void needDominators(Picture p) {
            if ((known & DOMINATORS) != 0) {
                return;
            }
            known |= DOMINATORS;
            Arrays.fill(dominator, 0, p.things, UNSET);
            boolean changed = true;
            for (int pass = 0; pass < STEPS && changed; pass++) {
                changed = false;
                for (int t = 0; t < p.things; t++) {
                    int found = commonDominator(t);
                    if (found != dominator[t]) {
                        dominator[t] = found;
                        changed = true;
                    }
                }
            }
            for (int t = 0; t < p.things; t++) {
                kept[t] = types.sizeOf(p.type[t], p.length[t]);
                dominated[t] = 1;
            }
            for (int t = p.things - 1; t >= 0; t--) {
                if (dominator[t] >= 0) {
                    kept[dominator[t]] += kept[t];
                    dominated[dominator[t]] += dominated[t];
                }
            }
        }

        private int commonDominator(int t) {
            int common = UNSET;
            for (int k = holderFirst[t]; k < holderFirst[t + 1]; k++) {
                int holder = holderThing[k];
                if (holder == t || holder != NONE && dominator[holder] == UNSET) {
                    continue;
                }
                common = common == UNSET ? holder : meeting(common, holder);
            }
            return common;
        }

        // Where the chains of dominators of two things meet.
        private int meeting(int one, int other) {
            int a = one;
            int b = other;
            for (int k = 0; k < STEPS && a != b; k++) {
                if (a > b) {
                    a = dominator[a];
                } else {
                    b = dominator[b];
                }
            }
            return a;
        }

        void needRings(Picture p) {
            if ((known & RINGS) != 0) {
                return;
            }
            known |= RINGS;
            for (int t = 0; t < p.things; t++) {
                order[t] = NONE;
                ring[t] = NONE;
                cursor[t] = p.first[t];
            }
            int met = 0;
            for (int t = 0; t < p.things; t++) {
                if (order[t] == NONE) {
                    met = explore(p, t, met);
                }
            }
            numberRings(p);
        }

        // A search in depth from a thing on; each set of things that reach one another is closed, once its first
        // thing is left: ring has that first thing then, until numberRings().
        private int explore(Picture p, int start, int met) {
            int now = enter(start, met);
            int deep = 1;
            int top = 1;
            path[0] = start;
            stack[0] = start;
            for (int step = 0; step < STEPS && deep > 0; step++) {
                int t = path[deep - 1];
                int next = nextLink(p, t);
                if (next == NONE) {
                    deep--;
                    if (deep > 0) {
                        low[path[deep - 1]] = Math.min(low[path[deep - 1]], low[t]);
                    }
                    if (low[t] == order[t]) {
                        top = closeRing(t, top);
                    }
                } else if (order[next] == NONE) {
                    now = enter(next, now);
                    path[deep] = next;
                    deep++;
                    stack[top] = next;
                    top++;
                } else if (ring[next] == NONE) {
                    low[t] = Math.min(low[t], order[next]);
                }
            }
            return now;
        }

        private int enter(int t, int met) {
            order[t] = met;
            low[t] = met;
            return met + 1;
        }

        private int nextLink(Picture p, int t) {
            while (cursor[t] < p.first[t + 1]) {
                int at = cursor[t];
                cursor[t]++;
                if (p.link[at] && p.value[at] != NONE) {
                    return (int) p.value[at];
                }
            }
            return NONE;
        }

        private int closeRing(int t, int top) {
            for (int k = top - 1; k >= 0; k--) {
                ring[stack[k]] = t;
                if (stack[k] == t) {
                    return k;
                }
            }
            return 0;
        }

        private void numberRings(Picture p) {
            Arrays.fill(low, 0, p.things, 0);
            Arrays.fill(path, 0, p.things, UNSET);
            for (int t = 0; t < p.things; t++) {
                low[ring[t]]++;
            }
            rings = 0;
            for (int t = 0; t < p.things; t++) {
                int set = ring[t];
                if (path[set] == UNSET) {
                    path[set] = NONE;
                    if (low[set] > 1 || linksItself(p, t)) {
                        path[set] = rings;
                        rings++;
                    }
                }
                ring[t] = path[set];
            }
        }

        private static boolean linksItself(Picture p, int t) {
            for (int at = p.first[t]; at < p.first[t + 1]; at++) {
                if (p.link[at] && p.value[at] == t) {
                    return true;
                }
            }
            return false;
        }

        // cursor chains the things of one bucket that differ; low counts the doubles of each of them.
        void needTwins(Picture p) {
            if ((known & TWINS) != 0) {
                return;
            }
            known |= TWINS;
            Arrays.fill(bucket, NONE);
            for (int t = 0; t < p.things; t++) {
                int b = bucketOf(p, t);
                int same = bucket[b];
                for (int k = 0; k < p.things && same != NONE && !isTwin(p, same, t); k++) {
                    same = cursor[same];
                }
                if (same == NONE) {
                    same = t;
                    cursor[t] = bucket[b];
                    bucket[b] = t;
                    low[t] = 0;
                }
                twin[t] = same;
                low[same]++;
            }
            twins = 0;
            for (int t = 0; t < p.things; t++) {
                int firstOne = twin[t];
                if (firstOne == t) {
                    path[t] = low[t] > 1 ? twins : NONE;
                    twins += low[t] > 1 ? 1 : 0;
                }
                twin[t] = path[firstOne];
            }
        }

        private static int bucketOf(Picture p, int t) {
            long sum = p.type[t] * 61L + p.length[t];
            for (int at = p.first[t]; at < p.first[t + 1]; at++) {
                sum = sum * 31 + p.value[at];
            }
            return (int) (sum ^ sum >>> 9 ^ sum >>> 32) & BUCKETS - 1;
        }

        private static boolean isTwin(Picture p, int t, int u) {
            if (p.type[t] != p.type[u] || p.length[t] != p.length[u]) {
                return false;
            }
            int shift = p.first[u] - p.first[t];
            for (int at = p.first[t]; at < p.first[t + 1]; at++) {
                if (p.value[at] != p.value[at + shift]) {
                    return false;
                }
            }
            return true;
        }
    }

    /** A question or a promise: its text is read into steps that the machine goes through, operands first. */
    private static final class Program {
        // What pushes a value.
        static final int NUMBER = 0;
        static final int NULL = 1;
        static final int TRUE = 2;
        static final int FALSE = 3;
        static final int THING = 4;
        static final int VARIABLE = 5;
        static final int FOLD = 6;
        // What changes one value.
        static final int ONE = 7;
        static final int SIZE = 7;
        static final int KEPT = 8;
        static final int DEPTH = 9;
        static final int LENGTH = 10;
        static final int FIELD = 11;
        static final int NEGATE = 12;
        static final int NOT = 13;
        static final int IS = 14;
        // What makes one value of two.
        static final int TWO = 15;
        static final int INDEX = 15;
        static final int EQUAL = 16;
        static final int UNEQUAL = 17;
        static final int LESS = 18;
        static final int LESS_EQUAL = 19;
        static final int GREATER = 20;
        static final int GREATER_EQUAL = 21;
        static final int PLUS = 22;
        static final int MINUS = 23;
        static final int TIMES = 24;
        static final int DIVIDE = 25;
        static final int REST = 26;
        // What begins a set.
        static final int SET = 27;
        static final int SET_ALL = 27;
        static final int SET_OWN = 28;
        static final int SET_THINGS = 29;
        static final int SET_SLOTS = 30;
        static final int SET_HELD = 31;
        static final int SET_FROM = 32;
        // What goes elsewhere.
        static final int JUMPS = 33;
        static final int AND = 33;
        static final int OR = 34;
        // From here on no step is a node, so the METER does not count it.
        static final int QUIET = 35;
        static final int TRUTH = 35;
        static final int NEXT = 36;
        static final int WHERE = 37;
        static final int STEP = 38;
        static final int FINISH = 39;
        static final int ROW = 40;
        static final int ROW_ITSELF = 41;

        static final int FRAMES = 11;
        static final int NODES = 120;

        private static final int NESTS = 10;
        private static final int STEPS = 500;
        private static final int MISPLACED = 1;
        private static final int NO_WORD = 2;
        private static final int UNKNOWN = 3;
        private static final int TOO_GREAT = 4;

        private final Tape tape;
        final int[] op;
        final int[] frame;
        final int[] target;
        final long[] detail;
        int steps;
        int fault;
        int place;
        boolean usesHolders;
        boolean usesKept;
        private int nodes;
        private int nest;
        private int folds;
        private boolean itKnown;
        private final long[] scopeName;
        private final int[] scopeFrame;
        private int scopes;
        private final int[] waiting;
        private int waits;

        Program(Tape read) {
            tape = read;
            op = new int[STEPS];
            frame = new int[STEPS];
            target = new int[STEPS];
            detail = new long[STEPS];
            scopeName = new long[NESTS];
            scopeFrame = new int[NESTS];
            waiting = new int[NODES];
        }

        boolean readPromise() {
            start();
            return readE() && (tape.word == Tape.END || refuse());
        }

        boolean readQuestion() {
            start();
            if (!readSet(0)) {
                return false;
            }
            int loop = emit(NEXT, 0, 0, 0);
            itKnown = true;
            if (!readWhere(loop)) {
                return false;
            }
            if (tape.word == Tape.GET) {
                tape.nextWord();
                if (!readE()) {
                    return false;
                }
                emit(ROW, 0, loop, 0);
            } else {
                emit(ROW_ITSELF, 0, loop, 0);
            }
            target[loop] = steps;
            return tape.word == Tape.END || refuse();
        }

        private void start() {
            steps = 0;
            fault = 0;
            place = NONE;
            usesHolders = false;
            usesKept = false;
            nodes = 0;
            nest = 0;
            folds = 0;
            itKnown = false;
            scopes = 0;
            waits = 0;
            tape.startWords();
        }

        private int emit(int what, int inFrame, int to, long with) {
            int at = Math.min(steps, STEPS - 1);
            op[at] = what;
            frame[at] = inFrame;
            target[at] = to;
            detail[at] = with;
            steps = at + 1;
            if (what == SET_HELD || what == KEPT) {
                usesHolders = true;
            }
            if (what == KEPT) {
                usesKept = true;
            }
            return at;
        }

        private boolean fail(int code) {
            fault = code;
            place = tape.place;
            return false;
        }

        // The word can't stand here.
        private boolean refuse() {
            return fail(tape.word == Tape.BAD ? NO_WORD : MISPLACED);
        }

        private boolean addNode() {
            if (nodes == NODES) {
                return fail(TOO_GREAT);
            }
            nodes++;
            return true;
        }

        private boolean addNest() {
            if (nest == NESTS) {
                return fail(TOO_GREAT);
            }
            nest++;
            return true;
        }

        private boolean pass(int word) {
            if (tape.word != word) {
                return refuse();
            }
            tape.nextWord();
            return true;
        }

        private boolean readWhere(int loop) {
            if (tape.word != Tape.WHERE) {
                return true;
            }
            tape.nextWord();
            if (!readE()) {
                return false;
            }
            emit(WHERE, 0, loop, 0);
            return true;
        }

        private boolean readSet(int inFrame) {
            int word = tape.word;
            if (word != Tape.ALL && word != Tape.OWN && word != Tape.THINGS && word != Tape.SLOTS
                && word != Tape.HELD && word != Tape.FROM) {
                return refuse();
            }
            if (!addNode()) {
                return false;
            }
            tape.nextWord();
            if (word == Tape.THINGS) {
                emit(SET_THINGS, inFrame, 0, 0);
                return true;
            }
            if (word == Tape.ALL || word == Tape.OWN) {
                emit(word == Tape.ALL ? SET_ALL : SET_OWN, inFrame, 0, tape.code);
                return pass(Tape.NAME);
            }
            if (!readP()) {
                return false;
            }
            emit(SET_SLOTS + word - Tape.SLOTS, inFrame, 0, 0);
            return true;
        }

        private boolean readE() {
            if (!readAnds()) {
                return false;
            }
            for (int k = 0; k <= NODES && tape.word == Tape.OR; k++) {
                if (!addNode()) {
                    return false;
                }
                int jump = emit(OR, 0, 0, 0);
                tape.nextWord();
                if (!readAnds()) {
                    return false;
                }
                emit(TRUTH, 0, 0, 0);
                target[jump] = steps;
            }
            return true;
        }

        private boolean readAnds() {
            if (!readNots()) {
                return false;
            }
            for (int k = 0; k <= NODES && tape.word == Tape.AND; k++) {
                if (!addNode()) {
                    return false;
                }
                int jump = emit(AND, 0, 0, 0);
                tape.nextWord();
                if (!readNots()) {
                    return false;
                }
                emit(TRUTH, 0, 0, 0);
                target[jump] = steps;
            }
            return true;
        }

        private boolean readNots() {
            int nots = 0;
            while (tape.word == Tape.NOT && nots <= NODES) {
                if (!addNode()) {
                    return false;
                }
                nots++;
                tape.nextWord();
            }
            if (!readComparison()) {
                return false;
            }
            for (int k = 0; k < nots; k++) {
                emit(NOT, 0, 0, 0);
            }
            return true;
        }

        private boolean readComparison() {
            if (!readSums()) {
                return false;
            }
            int act = comparisonOf(tape.word);
            if (act == NONE) {
                return true;
            }
            if (!addNode()) {
                return false;
            }
            tape.nextWord();
            if (act == IS) {
                emit(IS, 0, 0, tape.code);
                return pass(Tape.NAME);
            }
            if (!readSums()) {
                return false;
            }
            emit(act, 0, 0, 0);
            return true;
        }

        private static int comparisonOf(int word) {
            switch (word) {
                case Tape.EQUAL: return EQUAL;
                case Tape.UNEQUAL: return UNEQUAL;
                case Tape.LESS: return LESS;
                case Tape.LESS_EQUAL: return LESS_EQUAL;
                case Tape.GREATER: return GREATER;
                case Tape.GREATER_EQUAL: return GREATER_EQUAL;
                case Tape.IS: return IS;
                default: return NONE;
            }
        }

        private boolean readSums() {
            if (!readProducts()) {
                return false;
            }
            for (int k = 0; k <= NODES && (tape.word == Tape.PLUS || tape.word == Tape.MINUS); k++) {
                int act = tape.word == Tape.PLUS ? PLUS : MINUS;
                if (!addNode()) {
                    return false;
                }
                tape.nextWord();
                if (!readProducts()) {
                    return false;
                }
                emit(act, 0, 0, 0);
            }
            return true;
        }

        private boolean readProducts() {
            if (!readSigned()) {
                return false;
            }
            for (int k = 0; k <= NODES && tape.word >= Tape.TIMES && tape.word <= Tape.REST; k++) {
                int act = TIMES + tape.word - Tape.TIMES;
                if (!addNode()) {
                    return false;
                }
                tape.nextWord();
                if (!readSigned()) {
                    return false;
                }
                emit(act, 0, 0, 0);
            }
            return true;
        }

        private boolean readSigned() {
            int signs = 0;
            while (tape.word == Tape.MINUS && signs <= NODES) {
                if (!addNode()) {
                    return false;
                }
                signs++;
                tape.nextWord();
            }
            if (!readP()) {
                return false;
            }
            for (int k = 0; k < signs; k++) {
                emit(NEGATE, 0, 0, 0);
            }
            return true;
        }

        // size, kept, depth and length wait until what stands behind them is read, so that a long row of them does
        // not go deep.
        private boolean readP() {
            int base = waits;
            for (int k = 0; k <= NODES && tape.word >= Tape.SIZE && tape.word <= Tape.LENGTH; k++) {
                if (!addNode()) {
                    return false;
                }
                waiting[waits] = SIZE + tape.word - Tape.SIZE;
                waits++;
                tape.nextWord();
            }
            if (!readAtom() || !readTail()) {
                return false;
            }
            while (waits > base) {
                waits--;
                emit(waiting[waits], 0, 0, 0);
            }
            return true;
        }

        private boolean readTail() {
            for (int k = 0; k <= NODES && (tape.word == Tape.DOT || tape.word == Tape.OPEN_INDEX); k++) {
                boolean index = tape.word == Tape.OPEN_INDEX;
                if (!addNode() || index && !addNest()) {
                    return false;
                }
                tape.nextWord();
                if (!index) {
                    emit(FIELD, 0, 0, tape.code);
                    if (!pass(Tape.NAME)) {
                        return false;
                    }
                } else {
                    if (!readE() || !pass(Tape.CLOSE_INDEX)) {
                        return false;
                    }
                    nest--;
                    emit(INDEX, 0, 0, 0);
                }
            }
            return true;
        }

        private boolean readAtom() {
            switch (tape.word) {
                case Tape.NUMBER: return readLeaf(NUMBER, 0, tape.code);
                case Tape.NULL: return readLeaf(NULL, 0, 0);
                case Tape.TRUE: return readLeaf(TRUE, 0, 0);
                case Tape.FALSE: return readLeaf(FALSE, 0, 0);
                case Tape.IT: return itKnown ? readLeaf(VARIABLE, 0, 0) : fail(UNKNOWN);
                case Tape.NAME: return readVariable();
                case Tape.THING: return readThing();
                case Tape.OPEN: return readInner();
                default: break;
            }
            return tape.word >= Tape.COUNT && tape.word <= Tape.EACH ? readFold() : refuse();
        }

        private boolean readLeaf(int what, int inFrame, long with) {
            if (!addNode()) {
                return false;
            }
            emit(what, inFrame, 0, with);
            tape.nextWord();
            return true;
        }

        private boolean readVariable() {
            for (int k = scopes - 1; k >= 0; k--) {
                if (scopeName[k] == tape.code) {
                    return readLeaf(VARIABLE, scopeFrame[k], 0);
                }
            }
            return fail(UNKNOWN);
        }

        private boolean readThing() {
            if (!addNode()) {
                return false;
            }
            tape.nextWord();
            emit(THING, 0, 0, tape.code);
            return pass(Tape.NUMBER);
        }

        private boolean readInner() {
            if (!addNest()) {
                return false;
            }
            tape.nextWord();
            if (!readE() || !pass(Tape.CLOSE)) {
                return false;
            }
            nest--;
            return true;
        }

        private boolean readFold() {
            int kind = tape.word;
            if (!addNode() || !addNest()) {
                return false;
            }
            tape.nextWord();
            if (!pass(Tape.OPEN)) {
                return false;
            }
            long name = tape.code;
            if (!pass(Tape.NAME) || !pass(Tape.IN)) {
                return false;
            }
            folds++;
            int own = folds;
            emit(FOLD, own, 0, kind);
            if (!readSet(own)) {
                return false;
            }
            scopeName[scopes] = name;
            scopeFrame[scopes] = own;
            scopes++;
            if (!readFoldBody(kind, own)) {
                return false;
            }
            scopes--;
            folds--;
            nest--;
            return true;
        }

        private boolean readFoldBody(int kind, int own) {
            int loop = emit(NEXT, own, 0, 0);
            if (!readWhere(loop)) {
                return false;
            }
            if (kind != Tape.COUNT && (!pass(Tape.COLON) || !readE())) {
                return false;
            }
            emit(STEP, own, loop, kind);
            target[loop] = steps;
            emit(FINISH, own, 0, kind);
            return pass(Tape.CLOSE);
        }
    }

    /** Goes through a program's steps over a picture, with a stack of values and a frame for each open set. */
    private static final class Machine {
        static final int A_NUMBER = 0;
        static final int A_TRUTH = 1;
        static final int A_THING = 2;
        static final int A_NULL = 3;
        static final int NOTHING = 4;

        private static final int METER = 30000;
        private static final int STEPS = 1000000;
        private static final int ROWS = Picture.SLOTS;

        private final Types types;
        private Picture picture;
        private Program program;
        private int meter;
        private final int[] sort;
        private final long[] value;
        private int top;
        private final int[] setKind;
        private final int[] source;
        private final int[] cursor;
        private final int[] bound;
        private final int[] current;
        private final long[] total;
        private final boolean[] found;
        private final int[] queue;
        private final int[] seen;
        private final int[] stamp;
        final int[] rowThing;
        final int[] rowSort;
        final long[] rowValue;
        int rowCount;

        Machine(Types known) {
            types = known;
            sort = new int[Program.NODES + 1];
            value = new long[Program.NODES + 1];
            setKind = new int[Program.FRAMES];
            source = new int[Program.FRAMES];
            cursor = new int[Program.FRAMES];
            bound = new int[Program.FRAMES];
            current = new int[Program.FRAMES];
            total = new long[Program.FRAMES];
            found = new boolean[Program.FRAMES];
            queue = new int[Program.FRAMES * Picture.THINGS];
            seen = new int[Program.FRAMES * Picture.THINGS];
            stamp = new int[Program.FRAMES];
            rowThing = new int[ROWS];
            rowSort = new int[ROWS];
            rowValue = new long[ROWS];
        }

        // Whether what was left on the stack, the answer of a promise, is true.
        boolean saysTrue() {
            return top == 1 && isTrue(0);
        }

        // Goes to the end, unless the METER is SPENT: whether it came there.
        boolean run(Program asked, Picture over) {
            program = asked;
            picture = over;
            meter = 0;
            top = 0;
            if (asked.usesHolders) {
                over.shape.needHolders(over);
            }
            if (asked.usesKept) {
                over.shape.needDominators(over);
            }
            int at = 0;
            for (int step = 0; step < STEPS && at < program.steps && meter <= METER; step++) {
                at = execute(at);
            }
            return at >= program.steps && meter <= METER;
        }

        // Does one step: the place of the next one.
        private int execute(int at) {
            int op = program.op[at];
            if (op < Program.QUIET) {
                meter++;
            }
            if (op < Program.ONE) {
                doLeaf(op, at);
            } else if (op < Program.TWO) {
                doOne(op, program.detail[at]);
            } else if (op < Program.SET) {
                doTwo(op);
            } else if (op < Program.JUMPS) {
                beginSet(op, at);
            } else {
                return jump(op, at);
            }
            return at + 1;
        }

        private void push(int ofSort, long v) {
            if (top < sort.length) {
                sort[top] = ofSort;
                value[top] = v;
                top++;
            }
        }

        private void pushTruth(boolean v) {
            push(A_TRUTH, v ? 1 : 0);
        }

        private void pushThing(long t) {
            boolean there = t < picture.things;
            push(there ? A_THING : NOTHING, there ? t : 0);
        }

        private boolean isTrue(int at) {
            return at >= 0 && sort[at] == A_TRUTH && value[at] == 1;
        }

        private void doLeaf(int op, int at) {
            int in = program.frame[at];
            long with = program.detail[at];
            switch (op) {
                case Program.NUMBER: push(A_NUMBER, with); break;
                case Program.NULL: push(A_NULL, 0); break;
                case Program.TRUE: pushTruth(true); break;
                case Program.FALSE: pushTruth(false); break;
                case Program.THING: pushThing(with); break;
                case Program.VARIABLE: push(A_THING, current[in]); break;
                default:
                    total[in] = 0;
                    found[in] = false;
                    break;
            }
        }

        private void doOne(int op, long with) {
            if (top == 0) {
                return;
            }
            top--;
            int ofSort = sort[top];
            long v = value[top];
            if (op == Program.NEGATE && ofSort == A_NUMBER) {
                push(A_NUMBER, -v);
            } else if (op == Program.NOT && ofSort == A_TRUTH) {
                pushTruth(v == 0);
            } else if (op != Program.NEGATE && op != Program.NOT && ofSort == A_THING) {
                lookAt(op, (int) v, with);
            } else {
                push(NOTHING, 0);
            }
        }

        private void lookAt(int op, int t, long with) {
            int type = picture.type[t];
            boolean array = Types.isArray(type);
            switch (op) {
                case Program.SIZE: push(A_NUMBER, types.sizeOf(type, picture.length[t])); break;
                case Program.KEPT: push(A_NUMBER, picture.shape.kept[t]); break;
                case Program.DEPTH: push(A_NUMBER, picture.depth[t]); break;
                case Program.LENGTH: push(array ? A_NUMBER : NOTHING, array ? picture.length[t] : 0); break;
                case Program.IS: pushTruth(types.isNamed(type, with)); break;
                default: pushSlot(t, array ? NONE : types.slotNamed(type, with)); break;
            }
        }

        private void pushSlot(int t, int k) {
            if (k == NONE) {
                push(NOTHING, 0);
                return;
            }
            int at = picture.first[t] + k;
            if (!picture.link[at]) {
                push(A_NUMBER, picture.value[at]);
            } else if (picture.value[at] == NONE) {
                push(A_NULL, 0);
            } else {
                push(A_THING, picture.value[at]);
            }
        }

        private void doTwo(int op) {
            if (top < 2) {
                return;
            }
            top -= 2;
            int leftSort = sort[top];
            int rightSort = sort[top + 1];
            long left = value[top];
            long right = value[top + 1];
            if (op == Program.EQUAL || op == Program.UNEQUAL) {
                compare(op, leftSort, rightSort, left == right);
            } else if (rightSort != A_NUMBER) {
                push(NOTHING, 0);
            } else if (op == Program.INDEX && leftSort == A_THING) {
                pushElement((int) left, right);
            } else if (op != Program.INDEX && leftSort == A_NUMBER) {
                reckon(op, left, right);
            } else {
                push(NOTHING, 0);
            }
        }

        private void pushElement(int t, long k) {
            boolean inside = Types.isArray(picture.type[t]) && k >= 0 && k < picture.length[t];
            pushSlot(t, inside ? (int) k : NONE);
        }

        // Things and null are compared with each other by which they are; all else within its sort.
        private void compare(int op, int leftSort, int rightSort, boolean sameValue) {
            boolean links = isLink(leftSort) && isLink(rightSort);
            if (leftSort == NOTHING || leftSort != rightSort && !links) {
                push(NOTHING, 0);
                return;
            }
            pushTruth((leftSort == rightSort && sameValue) == (op == Program.EQUAL));
        }

        private static boolean isLink(int ofSort) {
            return ofSort == A_THING || ofSort == A_NULL;
        }

        private void reckon(int op, long left, long right) {
            switch (op) {
                case Program.LESS: pushTruth(left < right); break;
                case Program.LESS_EQUAL: pushTruth(left <= right); break;
                case Program.GREATER: pushTruth(left > right); break;
                case Program.GREATER_EQUAL: pushTruth(left >= right); break;
                case Program.PLUS: push(A_NUMBER, left + right); break;
                case Program.MINUS: push(A_NUMBER, left - right); break;
                case Program.TIMES: push(A_NUMBER, left * right); break;
                default: divide(op, left, right); break;
            }
        }

        private void divide(int op, long left, long right) {
            if (right == 0) {
                push(NOTHING, 0);
            } else {
                push(A_NUMBER, op == Program.DIVIDE ? left / right : left % right);
            }
        }

        private void beginSet(int op, int at) {
            int in = program.frame[at];
            setKind[in] = op;
            cursor[in] = 0;
            bound[in] = picture.things;
            if (op == Program.SET_ALL || op == Program.SET_OWN) {
                source[in] = classesNamed(program.detail[at], op == Program.SET_OWN);
            } else if (op != Program.SET_THINGS) {
                top = Math.max(0, top - 1);
                bound[in] = 0;
                if (sort[top] == A_THING) {
                    beginFrom(op, in, (int) value[top]);
                }
            }
        }

        // A bit for each class that IS (or, of own ones, is) one of that name.
        private int classesNamed(long name, boolean own) {
            int classes = 0;
            for (int c = 0; c < types.count; c++) {
                if (own ? types.name[c] == name : types.isNamed(c, name)) {
                    classes |= 1 << c;
                }
            }
            return classes;
        }

        private void beginFrom(int op, int in, int t) {
            if (op == Program.SET_SLOTS) {
                cursor[in] = picture.first[t];
                bound[in] = picture.first[t + 1];
            } else if (op == Program.SET_HELD) {
                cursor[in] = picture.shape.holderFirst[t];
                bound[in] = picture.shape.holderFirst[t + 1];
            } else {
                stamp[in]++;
                source[in] = 0;
                addReached(in, t);
            }
        }

        // In a set of what is reached, bound is how many are met, source how many of these were followed.
        private void addReached(int in, int t) {
            if (seen[in * Picture.THINGS + t] != stamp[in]) {
                seen[in * Picture.THINGS + t] = stamp[in];
                queue[in * Picture.THINGS + bound[in]] = t;
                bound[in]++;
            }
        }

        private int nextReached(int in) {
            while (cursor[in] == bound[in] && source[in] < bound[in] && source[in] < picture.things) {
                int t = queue[in * Picture.THINGS + source[in]];
                source[in]++;
                for (int at = picture.first[t]; at < picture.first[t + 1]; at++) {
                    if (picture.link[at] && picture.value[at] != NONE) {
                        addReached(in, (int) picture.value[at]);
                    }
                }
            }
            if (cursor[in] == bound[in]) {
                return NONE;
            }
            cursor[in]++;
            return queue[in * Picture.THINGS + cursor[in] - 1];
        }

        // The next thing that a set gives (but for one of what is reached); NONE at its end.
        private int nextThing(int in) {
            while (cursor[in] < bound[in]) {
                int at = cursor[in];
                cursor[in]++;
                int given = giveAt(in, at);
                if (given != NONE) {
                    return given;
                }
            }
            return NONE;
        }

        private int giveAt(int in, int at) {
            switch (setKind[in]) {
                case Program.SET_THINGS: return at;
                case Program.SET_SLOTS: return picture.link[at] ? (int) picture.value[at] : NONE;
                case Program.SET_HELD: return picture.shape.holderThing[at];
                default: break;
            }
            int type = picture.type[at];
            return type < Types.NUMBERS && (source[in] >> type & 1) != 0 ? at : NONE;
        }

        private int jump(int op, int at) {
            switch (op) {
                case Program.AND: return decide(at, 0);
                case Program.OR: return decide(at, 1);
                case Program.NEXT: return giveNext(at);
                case Program.STEP: return addUp(at);
                case Program.FINISH: finish(at); return at + 1;
                case Program.WHERE:
                    top = Math.max(0, top - 1);
                    return isTrue(top) ? at + 1 : program.target[at];
                case Program.TRUTH:
                    if (top > 0 && sort[top - 1] != A_TRUTH) {
                        top--;
                        push(NOTHING, 0);
                    }
                    return at + 1;
                default:
                    addRow(op);
                    return program.target[at];
            }
        }

        // Behind the left one of and, or: a truth that decides stays, one that does not makes room for the right one.
        private int decide(int at, long deciding) {
            if (top == 0) {
                return at + 1;
            }
            if (sort[top - 1] != A_TRUTH) {
                top--;
                push(NOTHING, 0);
                return program.target[at];
            }
            if (value[top - 1] == deciding) {
                return program.target[at];
            }
            top--;
            return at + 1;
        }

        private int giveNext(int at) {
            int in = program.frame[at];
            int given = setKind[in] == Program.SET_FROM ? nextReached(in) : nextThing(in);
            if (given == NONE) {
                return program.target[at];
            }
            meter++;
            current[in] = given;
            return at + 1;
        }

        // Adds a thing's value to a fold: back to the next thing, or on if the rest is not looked at.
        private int addUp(int at) {
            int in = program.frame[at];
            int kind = (int) program.detail[at];
            if (kind == Tape.COUNT) {
                total[in]++;
                return program.target[at];
            }
            top = Math.max(0, top - 1);
            if (kind == Tape.SOME || kind == Tape.EACH) {
                found[in] = isTrue(top) == (kind == Tape.SOME);
                return found[in] ? at + 1 : program.target[at];
            }
            if (sort[top] == A_NUMBER) {
                addNumber(in, kind, value[top]);
            }
            return program.target[at];
        }

        private void addNumber(int in, int kind, long v) {
            if (kind == Tape.SUM) {
                total[in] += v;
            } else if (!found[in] || (kind == Tape.MOST_OF ? v > total[in] : v < total[in])) {
                total[in] = v;
            }
            found[in] = true;
        }

        private void finish(int at) {
            int in = program.frame[at];
            int kind = (int) program.detail[at];
            if (kind == Tape.SOME || kind == Tape.EACH) {
                pushTruth(found[in] == (kind == Tape.SOME));
            } else if (found[in] || kind == Tape.COUNT || kind == Tape.SUM) {
                push(A_NUMBER, total[in]);
            } else {
                push(NOTHING, 0);
            }
        }

        private void addRow(int op) {
            if (op == Program.ROW_ITSELF) {
                push(A_THING, current[0]);
            }
            top = Math.max(0, top - 1);
            if (rowCount < ROWS && meter <= METER) {
                rowThing[rowCount] = current[0];
                rowSort[rowCount] = sort[top];
                rowValue[rowCount] = value[top];
                rowCount++;
            }
        }
    }

    /** The text of rules, read into heads and bodies over numbered relations and variables. */
    private static final class RuleText {
        static final int RULES = 12;
        static final int BODY = 4;
        static final int VARIABLES = 3;
        static final int RELATIONS = 6;

        // What a body may have beside the relations that are told.
        static final int LINK = 6;
        static final int SAME = 7;
        static final int OTHER = 8;
        static final int CLASS = 9;

        private static final int MISPLACED = 1;
        private static final int NO_WORD = 2;
        private static final int WRONG = 3;
        private static final int TOO_GREAT = 4;

        private final Tape tape;
        private final long ifCode;
        private final long linkCode;
        int rules;
        final int[] headRelation;
        final int[] headA;
        final int[] headB;
        final int[] variableCount;
        final int[] bodyCount;
        final int[] bodyRelation;
        final int[] bodyA;
        final int[] bodyB;
        final long[] bodyName;
        private final long[] variableName;
        private int variables;
        private int bound;
        int relations;
        private final long[] relationName;
        final int[] arity;
        int fault;
        int place;

        RuleText(Tape read) {
            tape = read;
            ifCode = Tape.codeOf("if");
            linkCode = Tape.codeOf("link");
            headRelation = new int[RULES];
            headA = new int[RULES];
            headB = new int[RULES];
            variableCount = new int[RULES];
            bodyCount = new int[RULES];
            bodyRelation = new int[RULES * BODY];
            bodyA = new int[RULES * BODY];
            bodyB = new int[RULES * BODY];
            bodyName = new long[RULES * BODY];
            variableName = new long[VARIABLES];
            relationName = new long[RELATIONS];
            arity = new int[RELATIONS];
        }

        boolean readAll() {
            rules = 0;
            relations = 0;
            fault = 0;
            place = NONE;
            tape.startWords();
            for (int k = 0; k <= RULES && tape.word != Tape.END; k++) {
                if (!readRule()) {
                    rules = 0;
                    relations = 0;
                    return false;
                }
            }
            return true;
        }

        private boolean fail(int code, int at) {
            fault = code;
            place = at;
            return false;
        }

        private boolean refuse() {
            fault = tape.word == Tape.BAD ? NO_WORD : MISPLACED;
            place = tape.place;
            return false;
        }

        private boolean pass(int word) {
            if (tape.word != word) {
                return refuse();
            }
            tape.nextWord();
            return true;
        }

        private boolean isPlainName() {
            return tape.word == Tape.NAME && tape.code != ifCode && tape.code != linkCode;
        }

        private boolean readRule() {
            if (!isPlainName()) {
                return refuse();
            }
            if (rules == RULES) {
                return fail(TOO_GREAT, tape.place);
            }
            variables = 0;
            bound = 0;
            int namePlace = tape.place;
            int relation = relationOf(tape.code);
            if (relation == NONE) {
                return fail(TOO_GREAT, namePlace);
            }
            tape.nextWord();
            headRelation[rules] = relation;
            if (!readPair(relation, namePlace, headA, headB, rules)) {
                return false;
            }
            if (tape.word != Tape.NAME || tape.code != ifCode) {
                return refuse();
            }
            tape.nextWord();
            if (!readBody()) {
                return false;
            }
            if ((bound >> headA[rules] & 1) == 0 || (bound >> headB[rules] & 1) == 0) {
                return fail(WRONG, tape.place);
            }
            variableCount[rules] = variables;
            rules++;
            tape.nextWord();
            return true;
        }

        // Reads up to the ; behind a body.
        private boolean readBody() {
            for (int k = 0; k <= BODY; k++) {
                if (tape.word != Tape.NAME || tape.code == ifCode) {
                    return refuse();
                }
                if (k == BODY) {
                    return fail(TOO_GREAT, tape.place);
                }
                if (!readPart(rules * BODY + k)) {
                    return false;
                }
                bodyCount[rules] = k + 1;
                if (tape.word == Tape.SEMICOLON) {
                    return true;
                }
                if (!pass(Tape.COMMA)) {
                    return false;
                }
            }
            return false;
        }

        private boolean readPart(int at) {
            long name = tape.code;
            int namePlace = tape.place;
            tape.nextWord();
            if (name == linkCode || tape.word == Tape.OPEN) {
                bodyRelation[at] = name == linkCode ? LINK : relationOf(name);
                if (bodyRelation[at] == NONE) {
                    return fail(TOO_GREAT, namePlace);
                }
                if (!readPair(bodyRelation[at], namePlace, bodyA, bodyB, at)) {
                    return false;
                }
                bound |= 1 << bodyA[at] | 1 << bodyB[at];
                return true;
            }
            if (tape.word == Tape.COLON) {
                tape.nextWord();
                bodyRelation[at] = CLASS;
                bodyName[at] = name;
                bodyA[at] = readVariable();
                bodyB[at] = bodyA[at];
                bound |= bodyA[at] == NONE ? 0 : 1 << bodyA[at];
                return bodyA[at] != NONE;
            }
            if (tape.word != Tape.EQUAL && tape.word != Tape.UNEQUAL) {
                return refuse();
            }
            bodyRelation[at] = tape.word == Tape.EQUAL ? SAME : OTHER;
            bodyA[at] = variableOf(name);
            if (bodyA[at] == NONE) {
                return fail(TOO_GREAT, namePlace);
            }
            tape.nextWord();
            bodyB[at] = readVariable();
            return bodyB[at] != NONE;
        }

        // The relation of a name, a new one if it has not come yet; NONE if that were one too many.
        private int relationOf(long name) {
            for (int k = 0; k < relations; k++) {
                if (relationName[k] == name) {
                    return k;
                }
            }
            if (relations == RELATIONS) {
                return NONE;
            }
            relationName[relations] = name;
            arity[relations] = 0;
            relations++;
            return relations - 1;
        }

        // Reads ( V ) or ( V , V ); a relation of one V has the same one twice.
        private boolean readPair(int relation, int namePlace, int[] a, int[] b, int at) {
            if (!pass(Tape.OPEN)) {
                return false;
            }
            a[at] = readVariable();
            b[at] = a[at];
            if (a[at] == NONE) {
                return false;
            }
            int many = tape.word == Tape.COMMA ? 2 : 1;
            if (tape.word != Tape.COMMA && (tape.word != Tape.CLOSE || relation == LINK)) {
                return refuse();
            }
            if (relation != LINK) {
                if (arity[relation] != 0 && arity[relation] != many) {
                    return fail(WRONG, namePlace);
                }
                arity[relation] = many;
            }
            tape.nextWord();
            if (many == 1) {
                return true;
            }
            b[at] = readVariable();
            return b[at] != NONE && pass(Tape.CLOSE);
        }

        // The variable that the word is; NONE with a fault if it is none.
        private int readVariable() {
            if (!isPlainName()) {
                refuse();
                return NONE;
            }
            int found = variableOf(tape.code);
            if (found == NONE) {
                fail(TOO_GREAT, tape.place);
                return NONE;
            }
            tape.nextWord();
            return found;
        }

        // The variable of a name, a new one if it has not come yet; NONE if that were one too many.
        private int variableOf(long name) {
            for (int k = 0; k < variables; k++) {
                if (variableName[k] == name) {
                    return k;
                }
            }
            if (variables == VARIABLES) {
                return NONE;
            }
            variableName[variables] = name;
            variables++;
            return variables - 1;
        }
    }

    /** The least relations for which rules hold: each thing has a bit, each relation a row of bits for each thing. */
    private static final class FactBook {
        private static final int ROUNDS = 1000000;
        private static final int KINDS = 9;

        private final Types types;
        private int things;
        private long full;
        private final long[] row;
        private final long[] column;
        private final long[] diagonal;
        private final long[] classBits;
        private final int[] chosen;
        private RuleText text;
        private boolean changed;

        FactBook(Types known) {
            types = known;
            row = new long[KINDS * RULED_THINGS];
            column = new long[KINDS * RULED_THINGS];
            diagonal = new long[KINDS];
            classBits = new long[RuleText.RULES * RuleText.BODY];
            chosen = new int[RuleText.VARIABLES];
        }

        void workOut(RuleText read, Picture picture) {
            text = read;
            things = Math.min(picture.things, RULED_THINGS);
            full = (1L << things) - 1;
            Arrays.fill(row, 0);
            Arrays.fill(column, 0);
            Arrays.fill(diagonal, 0);
            addGiven(picture);
            findClasses(picture);
            changed = true;
            for (int round = 0; round < ROUNDS && changed; round++) {
                changed = false;
                for (int r = 0; r < text.rules; r++) {
                    tryThings(r, 0);
                }
            }
        }

        private void addGiven(Picture picture) {
            for (int t = 0; t < things; t++) {
                for (int at = picture.first[t]; at < picture.first[t + 1]; at++) {
                    if (picture.link[at] && picture.value[at] != NONE) {
                        addFact(RuleText.LINK, t, (int) picture.value[at]);
                    }
                }
                for (int u = 0; u < things; u++) {
                    addFact(t == u ? RuleText.SAME : RuleText.OTHER, t, u);
                }
            }
        }

        private void findClasses(Picture picture) {
            for (int r = 0; r < text.rules; r++) {
                for (int k = 0; k < text.bodyCount[r]; k++) {
                    int at = r * RuleText.BODY + k;
                    classBits[at] = 0;
                    for (int t = 0; t < things && text.bodyRelation[at] == RuleText.CLASS; t++) {
                        if (types.isNamed(picture.type[t], text.bodyName[at])) {
                            classBits[at] |= 1L << t;
                        }
                    }
                }
            }
        }

        private void addFact(int relation, int a, int b) {
            int at = relation * RULED_THINGS;
            if ((row[at + a] >> b & 1) != 0) {
                return;
            }
            row[at + a] |= 1L << b;
            column[at + b] |= 1L << a;
            if (a == b) {
                diagonal[relation] |= 1L << a;
            }
            changed = true;
        }

        // Tries all things for a rule's variables from one on (three at most, so this goes three deep at most).
        private void tryThings(int rule, int variable) {
            long left = candidates(rule, variable);
            boolean last = variable == text.variableCount[rule] - 1;
            boolean shown = text.headA[rule] == variable || text.headB[rule] == variable;
            for (int t = 0; t < things && left != 0; t++) {
                if ((left >> t & 1) == 0) {
                    continue;
                }
                left &= ~(1L << t);
                chosen[variable] = t;
                if (!last && variable + 1 < RuleText.VARIABLES) {
                    tryThings(rule, variable + 1);
                    continue;
                }
                addFact(text.headRelation[rule], chosen[text.headA[rule]], chosen[text.headB[rule]]);
                if (!shown) {
                    return;
                }
            }
        }

        // The things that a variable may be, by what the body says of it and of those chosen ahead.
        private long candidates(int rule, int variable) {
            long bits = full;
            for (int k = 0; k < text.bodyCount[rule]; k++) {
                int at = rule * RuleText.BODY + k;
                int a = text.bodyA[at];
                int b = text.bodyB[at];
                int base = text.bodyRelation[at] * RULED_THINGS;
                if (Math.max(a, b) != variable) {
                    continue;
                }
                if (text.bodyRelation[at] == RuleText.CLASS) {
                    bits &= classBits[at];
                } else if (a == b) {
                    bits &= diagonal[text.bodyRelation[at]];
                } else if (a == variable) {
                    bits &= column[base + chosen[b]];
                } else {
                    bits &= row[base + chosen[a]];
                }
            }
            return bits;
        }

        int countOf(int relation) {
            int count = 0;
            for (int t = 0; t < things; t++) {
                count += Long.bitCount(row[relation * RULED_THINGS + t]);
            }
            return count;
        }

        boolean has(int relation, int a, int b) {
            return a >= 0 && a < things && b >= 0 && b < things && (row[relation * RULED_THINGS + a] >> b & 1) != 0;
        }
    }

    /** Pictures as bytes, and the log of those that are kept. */
    private static final class Archive {
        private static final int LOG = 8000;
        private static final int RECORDS = 1000;
        private static final int HIGHEST_ROOT = Picture.ROOTS - 1;
        private static final int FIRST_MARK = 72;
        private static final int SECOND_MARK = 80;
        private static final int CHECK = 4;
        private static final int CHECK_FACTOR = 16777619;

        private static final int ENDS = 1;
        private static final int NO_MARK = 2;
        private static final int NO_NUMBER = 3;
        private static final int CANT_BE = 4;
        private static final int WRONG_CHECK = 5;
        private static final int BEHIND = 6;
        private static final int NO_WALK = 7;

        private final Types types;
        final int[] buffer;
        private int filled;
        private final int[] log;
        int logSize;
        int records;
        private int[] source;
        private int begin;
        private int limit;
        private int at;
        private int numberPlace;
        private final int[] objectPlace;
        private final int[] slotPlace;
        int fault;
        int place;

        Archive(Types known) {
            types = known;
            buffer = new int[Tape.MOST];
            log = new int[LOG];
            source = buffer;
            objectPlace = new int[Picture.THINGS];
            slotPlace = new int[Picture.SLOTS];
        }

        // Writes a picture into the buffer: how many bytes it takes, also those for which there is no room.
        int encode(Picture p) {
            filled = 0;
            put(FIRST_MARK);
            put(SECOND_MARK);
            putNumber(p.things);
            for (int t = 0; t < p.things; t++) {
                putNumber(p.object[t]);
                putNumber(p.type[t]);
                putNumber(p.length[t]);
                for (int k = p.first[t]; k < p.first[t + 1]; k++) {
                    long v = p.value[k];
                    putNumber(p.link[k] ? v + 1 : v << 1 ^ v >> 63);
                }
            }
            putNumber(p.roots);
            for (int r = 0; r < p.roots; r++) {
                putNumber(p.rootNumber[r]);
                putNumber(p.rootThing[r]);
            }
            int check = checkOf(buffer, 0, Math.min(filled, buffer.length));
            for (int k = 0; k < CHECK; k++) {
                put(check >>> 8 * k & 255);
            }
            return filled;
        }

        private void put(int b) {
            if (filled < buffer.length) {
                buffer[filled] = b;
            }
            filled++;
        }

        private void putNumber(long number) {
            long left = number;
            for (int k = 0; k < 10 && left >>> 7 != 0; k++) {
                put((int) (left & 127) + 128);
                left >>>= 7;
            }
            put((int) left);
        }

        private static int checkOf(int[] bytes, int from, int to) {
            int check = 1;
            for (int k = from; k < to; k++) {
                check = check * CHECK_FACTOR ^ bytes[k];
            }
            return check;
        }

        // Reads a picture from a part of a row of bytes: whether there is no FAULT.
        boolean decode(int[] bytes, int from, int to, Picture p) {
            source = bytes;
            begin = from;
            limit = to;
            at = from;
            fault = 0;
            place = NONE;
            p.forget();
            return readMarks() && readThings(p) && checkLinks(p) && readRoots(p) && readCheck() && checkWalk(p);
        }

        private boolean fail(int code, int where) {
            fault = code;
            place = where - begin;
            return false;
        }

        private boolean readMarks() {
            for (int k = 0; k < 2; k++) {
                if (at >= limit) {
                    return fail(ENDS, limit);
                }
                if (source[at] != (k == 0 ? FIRST_MARK : SECOND_MARK)) {
                    return fail(NO_MARK, at);
                }
                at++;
            }
            return true;
        }

        // The next number, with 64 bits without a sign; 0 with a fault if there is none.
        private long readNumber() {
            numberPlace = at;
            long number = 0;
            for (int k = 0; k < 10; k++) {
                if (at >= limit) {
                    fail(ENDS, limit);
                    return 0;
                }
                int b = source[at];
                at++;
                if (k == 9 && b > 1 || k > 0 && b == 0) {
                    break;
                }
                number |= (b & 127L) << 7 * k;
                if (b < 128) {
                    return number;
                }
            }
            fail(NO_NUMBER, numberPlace);
            return 0;
        }

        // The next number if it is at most that much; NONE with a fault if not.
        private int readUpTo(int most) {
            long number = readNumber();
            if (fault == 0 && (number < 0 || number > most)) {
                fail(CANT_BE, numberPlace);
            }
            return fault == 0 ? (int) number : NONE;
        }

        private boolean readThings(Picture p) {
            int count = readUpTo(Picture.THINGS);
            for (int t = 0; t < count; t++) {
                if (!readThing(p, t) || !readSlots(p, t, count)) {
                    return false;
                }
            }
            return fault == 0;
        }

        private boolean readThing(Picture p, int t) {
            int object = readUpTo(Heap.MOST - 1);
            objectPlace[t] = numberPlace;
            if (object != NONE && p.thingOf[object] != NONE) {
                return fail(CANT_BE, numberPlace);
            }
            int type = object == NONE ? NONE : readUpTo(Types.HIGHEST);
            if (type != NONE && !types.isType(type)) {
                return fail(CANT_BE, numberPlace);
            }
            int length = type == NONE ? NONE : readUpTo(Types.isArray(type) ? Types.LENGTH : 0);
            if (length == NONE) {
                return false;
            }
            int slots = types.slotsOf(type, length);
            if (p.first[t] + slots > Picture.SLOTS) {
                return fail(CANT_BE, numberPlace);
            }
            p.addThing(object, type, length, slots);
            return true;
        }

        private boolean readSlots(Picture p, int t, int count) {
            for (int k = p.first[t]; k < p.first[t + 1]; k++) {
                int kind = types.kindAt(p.type[t], k - p.first[t]);
                p.link[k] = kind == Types.LINK;
                if (p.link[k]) {
                    p.value[k] = readUpTo(count) - 1;
                } else {
                    long number = readNumber();
                    p.value[k] = number >>> 1 ^ -(number & 1);
                }
                slotPlace[k] = numberPlace;
                if (fault != 0) {
                    return false;
                }
                if (!p.link[k] && !Types.isNumber(kind, p.value[k])) {
                    return fail(CANT_BE, numberPlace);
                }
            }
            return true;
        }

        private boolean checkLinks(Picture p) {
            for (int t = 0; t < p.things; t++) {
                for (int k = p.first[t]; k < p.first[t + 1]; k++) {
                    boolean linked = p.link[k] && p.value[k] != NONE;
                    if (linked && !types.fits(p.type[(int) p.value[k]], types.linkAt(p.type[t], k - p.first[t]))) {
                        return fail(CANT_BE, slotPlace[k]);
                    }
                }
            }
            return true;
        }

        private boolean readRoots(Picture p) {
            int count = readUpTo(Picture.ROOTS);
            int ahead = NONE;
            for (int r = 0; r < count; r++) {
                int number = readUpTo(HIGHEST_ROOT);
                if (number != NONE && number <= ahead) {
                    return fail(CANT_BE, numberPlace);
                }
                int thing = number == NONE ? NONE : readUpTo(p.things - 1);
                if (thing == NONE) {
                    return false;
                }
                ahead = number;
                p.addRoot(number, thing);
            }
            return fault == 0;
        }

        private boolean readCheck() {
            if (limit - at < CHECK) {
                return fail(ENDS, limit);
            }
            int check = checkOf(source, begin, at);
            for (int k = 0; k < CHECK; k++) {
                if (source[at + k] != (check >>> 8 * k & 255)) {
                    return fail(WRONG_CHECK, at);
                }
            }
            return at + CHECK == limit || fail(BEHIND, at + CHECK);
        }

        private boolean checkWalk(Picture p) {
            int met = p.findWays();
            return met == p.things || fail(NO_WALK, objectPlace[met]);
        }

        // Puts the buffer's first bytes to the log's end: whether there is room.
        boolean append(int size) {
            if (logSize + 2 + size > LOG) {
                return false;
            }
            log[logSize] = size & 255;
            log[logSize + 1] = size >> 8;
            System.arraycopy(buffer, 0, log, logSize + 2, size);
            logSize += 2 + size;
            records++;
            return true;
        }

        // Where the record ends that begins at a place; NONE if it is not whole.
        private int recordEnd(int from) {
            if (from + 2 > logSize) {
                return NONE;
            }
            int end = from + 2 + log[from] + 256 * log[from + 1];
            return end <= logSize ? end : NONE;
        }

        int reopenAt(int n, Picture scratch) {
            logSize = Math.max(0, Math.min(n, logSize));
            records = 0;
            int from = 0;
            for (int k = 0; k < RECORDS; k++) {
                int end = recordEnd(from);
                if (end == NONE || !decode(log, from + 2, end, scratch)) {
                    break;
                }
                from = end;
                records++;
            }
            logSize = from;
            return records;
        }

        boolean readRecord(int number, Picture p) {
            int from = 0;
            for (int k = 0; k < number && from != NONE; k++) {
                from = recordEnd(from);
            }
            int end = from == NONE ? NONE : recordEnd(from);
            return end != NONE && decode(log, from + 2, end, p);
        }
    }
}
