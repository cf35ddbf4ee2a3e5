/** Segments in directories, rings that guard them, and a machine that calls through their gates. */
public final class RingGates {
    public static final int BAD = -1, NOT = -2, FULL = -3, STATE = -5;
    public static final int VOID = -2000000000;

    private static final int NO_PLACE = -13, NO_SIZE = -14, TEXT_FAULT = -100;

    private static final int DIRECTORIES = 8, SEGMENTS = 16, NAMES = 26, WORDS = 24, RINGS = 8;
    private static final int RULES = 4, FRAMES = 6, ARGUMENTS = 3, TAPE = 120, STEPS = 200, DRAWS = 200;
    private static final int LONGEST_CHAIN = 6, RECORD = 8, ROOT = 0, ROOT_QUOTA = 64, FIRST_RING = 4;

    private static final int MISSING = 0, NUMBER = 1, POINTER = 2, INDIRECT = 3, LINK = 4, SNAPPED = 5, ACT = 6;
    private static final int READ = 1, WRITE = 2, GO = 4, MAY_ALL = 7;

    private static final int DONE = 0, HALTED = 1;
    private static final int NO_SEGMENT = -20, NO_WORD = -21, NO_ACCESS = -22, NOTHING_THERE = -23, OTHER_KIND = -24;
    private static final int CHAIN_TOO_LONG = -25, NO_LINK = -26, NO_GATE = -27, RING_TOO_HIGH = -28;
    private static final int STACK_FULL = -29, NO_WAY_BACK = -30, NO_ARGUMENT = -31;

    private static final int ACT_HALT = 0, ACT_TAKE = 1, ACT_PUT = 2, ACT_ADD = 3, ACT_GO = 4, ACT_CALL = 5;
    private static final int ACT_BACK = 6, ACT_ARG = 7, ACT_SET = 8, ACT_TEST = 9, ACTS = 10;
    // In a text the words of acts have the acts' own numbers, the others come behind them.
    private static final int TEXT_NUM = 10, TEXT_PTR = 11, TEXT_IND = 12, TEXT_LINK = 13, TEXT_NONE = 14, TEXT_WORDS = 15;

    private final Machine now = new Machine();
    private final Machine kept = new Machine();
    // A run in thought changes this copy, so that nothing of it has to be taken back.
    private final Machine thought = new Machine();
    private final Text tape = new Text();
    private boolean isKept;
    private int latestWhy;

    public RingGates() {
    }

    // ---- directories, segments, quota

    public int directory(int above) {
        World world = now.world;
        return world.hasDirectory(above) ? world.makeDirectory(above) : BAD;
    }

    public int segment(int directory, int name, int length) {
        if (length < 0) {
            return NO_SIZE;
        }
        World world = now.world;
        if (!world.hasDirectory(directory) || !isBelow(name, NAMES) || length == 0 || length > WORDS) {
            return BAD;
        }
        int number = world.leastFree();
        if (number < 0) {
            return FULL;
        }
        if (world.named(directory, name) >= 0 || !world.hasRoom(directory, recordsOf(length))) {
            return STATE;
        }
        world.makeSegment(number, directory, name, length);
        return number;
    }

    public int drop(int segment) {
        Segment dropped = now.world.find(segment);
        if (dropped == null) {
            return BAD;
        }
        dropped.there = false;
        return recordsOf(dropped.length);
    }

    public int resize(int segment, int length) {
        if (length < 0) {
            return NO_SIZE;
        }
        World world = now.world;
        Segment resized = world.find(segment);
        if (resized == null || length == 0 || length > WORDS) {
            return BAD;
        }
        int more = recordsOf(length) - recordsOf(resized.length);
        if (more > 0 && !world.hasRoom(resized.directory, more)) {
            return STATE;
        }
        int before = resized.length;
        resized.changeLength(length);
        return before;
    }

    public int rename(int segment, int name) {
        World world = now.world;
        Segment renamed = world.find(segment);
        if (renamed == null || !isBelow(name, NAMES)) {
            return BAD;
        }
        int holder = world.named(renamed.directory, name);
        if (holder >= 0 && holder != segment) {
            return STATE;
        }
        int before = renamed.name;
        renamed.name = name;
        return before;
    }

    public int brackets(int segment, int rrr) {
        Segment guarded = now.world.find(segment);
        if (guarded == null || rrr < 0) {
            return BAD;
        }
        int r1 = rrr / 100;
        int r2 = rrr / 10 % 10;
        int r3 = rrr % 10;
        if (r1 > r2 || r2 > r3 || r3 >= RINGS) {
            return BAD;
        }
        int before = 100 * guarded.r1 + 10 * guarded.r2 + guarded.r3;
        guarded.r1 = r1;
        guarded.r2 = r2;
        guarded.r3 = r3;
        return before;
    }

    public int set(int segment, int what, int v) {
        Segment changed = now.world.find(segment);
        if (changed == null || v < 0) {
            return BAD;
        }
        if (what == 0 && v <= MAY_ALL) {
            int before = changed.may;
            changed.may = v;
            return before;
        }
        if (what == 1 && v <= changed.length) {
            int before = changed.gates;
            changed.gates = v;
            return before;
        }
        return BAD;
    }

    public int quota(int directory, int n) {
        World world = now.world;
        if (!world.hasDirectory(directory) || directory == ROOT) {
            return BAD;
        }
        return world.moveQuota(directory, n);
    }

    public int cell(int directory, int what) {
        World world = now.world;
        if (!world.hasDirectory(directory)) {
            return BAD;
        }
        switch (what) {
            case 0:
                return directory == ROOT ? NOT : world.aboveOf(directory);
            case 1:
                return world.quotaOf(directory);
            case 2:
                return world.usedOf(world.cellFrom(directory));
            case 3:
                return world.cellFrom(directory);
            case 4:
                return world.segmentsIn(directory);
            default:
                return BAD;
        }
    }

    public int of(int segment, int what) {
        Segment told = now.world.find(segment);
        if (told == null) {
            return BAD;
        }
        switch (what) {
            case 0:
                return told.directory;
            case 1:
                return told.name;
            case 2:
                return told.length;
            case 3:
                return told.r1;
            case 4:
                return told.r2;
            case 5:
                return told.r3;
            case 6:
                return told.may;
            case 7:
                return told.gates;
            case 8:
                return told.serial;
            case 9:
                return recordsOf(told.length);
            default:
                return BAD;
        }
    }

    public int rule(int directory) {
        World world = now.world;
        if (directory == -1) {
            world.rules = 0;
            return 0;
        }
        if (!world.hasDirectory(directory)) {
            return BAD;
        }
        return world.addRule(directory);
    }

    public int lookup(int segment, int name) {
        World world = now.world;
        Segment from = world.find(segment);
        if (from == null || !isBelow(name, NAMES)) {
            return BAD;
        }
        int found = world.seek(from, name);
        return found < 0 ? NOT : found;
    }

    // ---- words

    public int number(int segment, int word, int v) {
        return write(now.world.find(segment), word, NUMBER, v);
    }

    public int pointer(int segment, int word, int srw, boolean indirect) {
        if (srw < 0 || segmentIn(srw) >= SEGMENTS || ringIn(srw) >= RINGS || wordIn(srw) >= WORDS) {
            return BAD;
        }
        return write(now.world.find(segment), word, indirect ? INDIRECT : POINTER, srw);
    }

    public int link(int segment, int word, int name, int to) {
        if (!isBelow(name, NAMES) || !isBelow(to, WORDS)) {
            return BAD;
        }
        return write(now.world.find(segment), word, LINK, 100 * name + to);
    }

    public int act(int segment, int word, int what, int w, int n) {
        if (!isBelow(what, ACTS) || !isBelow(w, WORDS) || !isBelow(n, ARGUMENTS + 1)) {
            return BAD;
        }
        return write(now.world.find(segment), word, ACT, 1000 * what + 10 * w + n);
    }

    public int word(int segment, int word, int part) {
        Segment told = now.world.find(segment);
        if (told == null || !told.has(word)) {
            return VOID;
        }
        switch (part) {
            case 0:
                return told.kindAt(word);
            case 1:
                return told.valueAt(word);
            case 2:
                return told.knownAt(word);
            default:
                return VOID;
        }
    }

    public int feed(int letter) {
        if (!isBelow(letter, 256)) {
            return BAD;
        }
        return tape.append(letter) ? tape.length : FULL;
    }

    public int load(int segment, int word) {
        Segment loaded = now.world.find(segment);
        if (loaded == null || word < 0) {
            return BAD;
        }
        tape.read();
        tape.length = 0;
        if (tape.fault >= 0) {
            return TEXT_FAULT - tape.fault;
        }
        if (word > loaded.length - tape.words) {
            return NO_PLACE;
        }
        for (int i = 0; i < tape.words; i++) {
            loaded.become(word + i, tape.kindOf(i), tape.valueOf(i), 0);
        }
        return tape.words;
    }

    public int unsnap(int segment) {
        Segment freed = now.world.find(segment);
        return freed == null ? BAD : freed.unsnapAll();
    }

    // ---- the machine

    public int start(int segment, int word, int ring) {
        if (!isBelow(segment, SEGMENTS) || !isBelow(word, WORDS) || !isBelow(ring, RINGS)) {
            return BAD;
        }
        now.begin(segment, word, ring);
        return 1;
    }

    public int run(int n) {
        if (n < 1 || n > STEPS) {
            return BAD;
        }
        int steps = now.drive(n);
        latestWhy = now.outcome;
        return steps;
    }

    public int why() {
        return latestWhy;
    }

    public int machine(int what) {
        switch (what) {
            case 0:
                return now.segment;
            case 1:
                return now.word;
            case 2:
                return now.ring;
            case 3:
                return now.a;
            default:
                return what >= 10 && what < 10 + RINGS ? now.stacks.heightOf(what - 10) : VOID;
        }
    }

    public int frame(int ring, int k, int what) {
        if (!isBelow(ring, RINGS) || k < 0 || !isBelow(what, 5)) {
            return BAD;
        }
        Frame told = now.stacks.frameAt(ring, k);
        if (told == null) {
            return NOT;
        }
        switch (what) {
            case 0:
                return told.segment;
            case 1:
                return told.word;
            case 2:
                return told.ring;
            case 3:
                return told.size;
            default:
                return told.outward ? 1 : 0;
        }
    }

    // ---- in thought

    public int dry(int n, int what) {
        if (n < 1 || n > STEPS || !isBelow(what, 5)) {
            return VOID;
        }
        thought.copyFrom(now);
        int steps = thought.drive(n);
        switch (what) {
            case 0:
                return steps;
            case 1:
                return thought.outcome;
            case 2:
                return thought.a;
            case 3:
                return thought.ring;
            default:
                return thought.stacks.framesOfAll();
        }
    }

    public int operand(int segment, int word, int ring, int what) {
        Segment holder = now.world.find(segment);
        if (holder == null || !holder.has(word) || !isBelow(ring, RINGS) || !isBelow(what, 3)) {
            return BAD;
        }
        int fault = now.seekOperand(segment, word, ring, false);
        if (fault != DONE) {
            return fault;
        }
        switch (what) {
            case 0:
                return now.operandRing;
            case 1:
                return now.operandSegment;
            default:
                return now.operandWord;
        }
    }

    public int enters(int segment, int word, int ring) {
        if (!isBelow(segment, SEGMENTS) || !isBelow(word, WORDS) || !isBelow(ring, RINGS)) {
            return BAD;
        }
        return now.world.ringEntered(segment, word, ring);
    }

    public int access(int segment, int ring) {
        Segment guarded = now.world.find(segment);
        if (guarded == null || !isBelow(ring, RINGS)) {
            return BAD;
        }
        return (guarded.letsRead(ring) ? READ : 0) + (guarded.letsWrite(ring) ? WRITE : 0)
            + (guarded.letsGo(ring) ? GO : 0);
    }

    public int ways(int a, int b) {
        if (!isBelow(a, RINGS) || b < -1 || b >= RINGS) {
            return BAD;
        }
        int reached = 1 << a;
        for (int calls = 0; calls < RINGS; calls++) {
            if (b >= 0 && (reached & 1 << b) != 0) {
                return calls;
            }
            reached = now.world.reachedByOneCall(reached);
        }
        return b < 0 ? lowestBit(reached) : NOT;
    }

    public int stale() {
        int stale = 0;
        for (int s = 0; s < SEGMENTS; s++) {
            Segment holder = now.world.find(s);
            if (holder != null) {
                stale += now.world.staleIn(holder);
            }
        }
        return stale;
    }

    public int drawn(int seed, int n) {
        if (n < 1 || n > DRAWS) {
            return BAD;
        }
        int granted = 0;
        int z = seed;
        for (int i = 0; i < n; i++) {
            z = z * 1103515245 + 12345;
            Segment guarded = now.world.find(z >>> 11 & 15);
            if (guarded != null && isGranted(guarded, z >>> 8 & 7, (z >>> 16) % 3)) {
                granted++;
            }
        }
        return granted;
    }

    public int image() {
        kept.copyFrom(now);
        isKept = true;
        return now.world.segmentsThere();
    }

    public int back() {
        if (!isKept) {
            return STATE;
        }
        now.copyFrom(kept);
        return now.world.segmentsThere();
    }

    public int count(int what) {
        World world = now.world;
        switch (what) {
            case 0:
                return world.directories;
            case 1:
                return world.segmentsThere();
            case 2:
                return world.rules;
            case 3:
                return tape.length;
            case 4:
                return world.cells();
            case 5:
                return world.quotaOfAll();
            case 6:
                return world.recordsOfAll();
            case 7:
                return world.snappedOfAll();
            case 8:
                return world.made;
            default:
                return BAD;
        }
    }

    // ---- small ones that several of the above use

    private static boolean isBelow(int v, int bound) {
        return v >= 0 && v < bound;
    }

    private static int recordsOf(int length) {
        return (length + RECORD - 1) / RECORD;
    }

    private static int segmentIn(int srw) {
        return srw / 1000;
    }

    private static int ringIn(int srw) {
        return srw / 100 % 10;
    }

    private static int wordIn(int srw) {
        return srw % 100;
    }

    private static int write(Segment holder, int word, int kind, int value) {
        if (holder == null) {
            return BAD;
        }
        if (!holder.has(word)) {
            return NO_PLACE;
        }
        holder.become(word, kind, value, 0);
        return 1;
    }

    private static boolean isGranted(Segment guarded, int ring, int way) {
        switch (way) {
            case 0:
                return guarded.letsRead(ring);
            case 1:
                return guarded.letsWrite(ring);
            default:
                return guarded.letsGo(ring);
        }
    }

    private static int lowestBit(int rings) {
        for (int r = 0; r < RINGS; r++) {
            if ((rings & 1 << r) != 0) {
                return r;
            }
        }
        return NOT;
    }

    private static void copyNumbers(int[] from, int[] to) {
        for (int i = 0; i < from.length && i < to.length; i++) {
            to[i] = from[i];
        }
    }

    /** A segment: what guards it, and its words. */
    private static final class Segment {
        boolean there;
        int directory, name, serial, length;
        int r1, r2, r3, may, gates;
        // value and known are kept as word() tells them (parts 1 and 2).
        final int[] kinds = new int[WORDS];
        final int[] values = new int[WORDS];
        final int[] knowns = new int[WORDS];

        boolean has(int word) {
            return word >= 0 && word < length && word < WORDS;
        }

        int kindAt(int word) {
            return has(word) ? kinds[word] : MISSING;
        }

        int valueAt(int word) {
            return has(word) ? values[word] : 0;
        }

        int knownAt(int word) {
            return has(word) ? knowns[word] : 0;
        }

        void become(int word, int kind, int value, int known) {
            if (has(word)) {
                kinds[word] = kind;
                values[word] = value;
                knowns[word] = known;
            }
        }

        boolean letsRead(int ring) {
            return (may & READ) != 0 && ring <= r2;
        }

        boolean letsWrite(int ring) {
            return (may & WRITE) != 0 && ring <= r1;
        }

        boolean letsGo(int ring) {
            return (may & GO) != 0 && ring >= r1 && ring <= r2;
        }

        // Words beyond the length are kept MISSING, so that a longer segment finds them so.
        void changeLength(int newLength) {
            for (int w = newLength; w < length; w++) {
                become(w, MISSING, 0, 0);
            }
            length = newLength;
            gates = Math.min(gates, newLength);
        }

        int snapped() {
            int n = 0;
            for (int w = 0; w < length; w++) {
                n += kindAt(w) == SNAPPED ? 1 : 0;
            }
            return n;
        }

        int unsnapAll() {
            int n = 0;
            for (int w = 0; w < length; w++) {
                if (kindAt(w) == SNAPPED) {
                    become(w, LINK, knownAt(w), 0);
                    n++;
                }
            }
            return n;
        }

        // What a segment was that is not there shows nowhere: makeSegment() begins all of it anew.
        void copyFrom(Segment other) {
            there = other.there;
            if (!there) {
                return;
            }
            directory = other.directory;
            name = other.name;
            serial = other.serial;
            length = other.length;
            r1 = other.r1;
            r2 = other.r2;
            r3 = other.r3;
            may = other.may;
            gates = other.gates;
            copyNumbers(other.kinds, kinds);
            copyNumbers(other.values, values);
            copyNumbers(other.knowns, knowns);
        }
    }

    /** Directories with their quotas, rules, and segments. */
    private static final class World {
        int directories = 1;
        final int[] aboves = new int[DIRECTORIES];
        final int[] quotas = new int[DIRECTORIES];
        int rules;
        final int[] ruleRow = new int[RULES];
        int made;
        final Segment[] segments = new Segment[SEGMENTS];

        World() {
            quotas[ROOT] = ROOT_QUOTA;
            for (int s = 0; s < segments.length; s++) {
                segments[s] = new Segment();
            }
        }

        boolean hasDirectory(int d) {
            return d >= 0 && d < directories && d < DIRECTORIES;
        }

        int aboveOf(int d) {
            return hasDirectory(d) ? aboves[d] : ROOT;
        }

        int quotaOf(int d) {
            return hasDirectory(d) ? quotas[d] : 0;
        }

        void addQuota(int d, int n) {
            if (hasDirectory(d)) {
                quotas[d] += n;
            }
        }

        int makeDirectory(int above) {
            int d = directories;
            if (d < 0 || d >= DIRECTORIES) {
                return FULL;
            }
            aboves[d] = above;
            quotas[d] = 0;
            directories++;
            return d;
        }

        int addRule(int d) {
            if (rules < 0 || rules >= ruleRow.length) {
                return FULL;
            }
            ruleRow[rules] = d;
            rules++;
            return rules;
        }

        Segment find(int s) {
            if (s < 0 || s >= segments.length) {
                return null;
            }
            Segment found = segments[s];
            return found != null && found.there ? found : null;
        }

        int leastFree() {
            for (int s = 0; s < segments.length; s++) {
                Segment g = segments[s];
                if (g != null && !g.there) {
                    return s;
                }
            }
            return -1;
        }

        void makeSegment(int s, int d, int name, int length) {
            Segment fresh = s >= 0 && s < segments.length ? segments[s] : null;
            if (fresh == null) {
                return;
            }
            made++;
            fresh.there = true;
            fresh.directory = d;
            fresh.name = name;
            fresh.serial = made;
            fresh.r1 = FIRST_RING;
            fresh.r2 = FIRST_RING;
            fresh.r3 = FIRST_RING;
            fresh.may = MAY_ALL;
            // Made empty first, so that no word or gate of an earlier segment stays.
            fresh.changeLength(0);
            fresh.changeLength(length);
        }

        // THE ROOT is a CELL always, so the way up ends there.
        int cellFrom(int d) {
            int c = d;
            for (int i = 0; i < DIRECTORIES && c != ROOT && quotaOf(c) == 0; i++) {
                c = aboveOf(c);
            }
            return c;
        }

        int usedOf(int c) {
            int used = 0;
            for (int s = 0; s < SEGMENTS; s++) {
                Segment taking = find(s);
                if (taking != null && cellFrom(taking.directory) == c) {
                    used += recordsOf(taking.length);
                }
            }
            return used;
        }

        boolean hasRoom(int d, int records) {
            int c = cellFrom(d);
            return usedOf(c) + records <= quotaOf(c);
        }

        int moveQuota(int d, int n) {
            int from = cellFrom(aboveOf(d));
            long less = (long) quotaOf(from) - n;
            if ((long) quotaOf(d) + n < 0 || less < (from == ROOT ? 1 : 0)) {
                return STATE;
            }
            addQuota(d, n);
            addQuota(from, -n);
            // Who takes from which CELL is known only when the CELLS are as they would be.
            if (isAnyOverfull()) {
                addQuota(d, -n);
                addQuota(from, n);
                return STATE;
            }
            return quotaOf(d);
        }

        boolean isAnyOverfull() {
            for (int d = 0; d < directories; d++) {
                if (quotaOf(d) > 0 && usedOf(d) > quotaOf(d)) {
                    return true;
                }
            }
            return false;
        }

        int segmentsIn(int d) {
            int n = 0;
            for (int s = 0; s < SEGMENTS; s++) {
                Segment counted = find(s);
                n += counted != null && counted.directory == d ? 1 : 0;
            }
            return n;
        }

        int named(int d, int name) {
            for (int s = 0; s < segments.length; s++) {
                Segment g = segments[s];
                if (g != null && g.there && g.directory == d && g.name == name) {
                    return s;
                }
            }
            return -1;
        }

        // LOOKUP: -1, if no SEGMENT is found.
        int seek(Segment from, int name) {
            int found = named(from.directory, name);
            for (int i = 0; found < 0 && i < rules && i < ruleRow.length; i++) {
                found = named(ruleRow[i], name);
            }
            return found;
        }

        // The RING in which a CALL comes, or its FAULT.
        int ringEntered(int s, int word, int ring) {
            Segment called = find(s);
            if (called == null) {
                return NO_SEGMENT;
            }
            if (!called.has(word)) {
                return NO_WORD;
            }
            if ((called.may & GO) == 0) {
                return NO_ACCESS;
            }
            if (ring < called.r1) {
                return called.r1;
            }
            if (ring <= called.r2) {
                return ring;
            }
            if (ring > called.r3) {
                return RING_TOO_HIGH;
            }
            return word < called.gates ? called.r2 : NO_GATE;
        }

        // Where any WORD is a gate, WORD 0 is one: no other WORD leads to another ring.
        int reachedByOneCall(int rings) {
            int reached = rings;
            for (int r = 0; r < RINGS; r++) {
                for (int s = 0; (rings & 1 << r) != 0 && s < SEGMENTS; s++) {
                    int into = ringEntered(s, 0, r);
                    if (into >= 0) {
                        reached |= 1 << into;
                    }
                }
            }
            return reached;
        }

        int staleIn(Segment holder) {
            int stale = 0;
            for (int w = 0; w < holder.length; w++) {
                if (holder.kindAt(w) == SNAPPED
                    && seek(holder, holder.knownAt(w) / 100) != segmentIn(holder.valueAt(w))) {
                    stale++;
                }
            }
            return stale;
        }

        int segmentsThere() {
            int n = 0;
            for (int s = 0; s < SEGMENTS; s++) {
                n += find(s) != null ? 1 : 0;
            }
            return n;
        }

        int cells() {
            int n = 0;
            for (int d = 0; d < directories; d++) {
                n += quotaOf(d) > 0 ? 1 : 0;
            }
            return n;
        }

        int quotaOfAll() {
            int sum = 0;
            for (int d = 0; d < directories; d++) {
                sum += quotaOf(d);
            }
            return sum;
        }

        int recordsOfAll() {
            int sum = 0;
            for (int s = 0; s < SEGMENTS; s++) {
                Segment taking = find(s);
                sum += taking != null ? recordsOf(taking.length) : 0;
            }
            return sum;
        }

        int snappedOfAll() {
            int sum = 0;
            for (int s = 0; s < SEGMENTS; s++) {
                Segment holder = find(s);
                sum += holder != null ? holder.snapped() : 0;
            }
            return sum;
        }

        void copyFrom(World other) {
            directories = other.directories;
            copyNumbers(other.aboves, aboves);
            copyNumbers(other.quotas, quotas);
            rules = other.rules;
            copyNumbers(other.ruleRow, ruleRow);
            made = other.made;
            for (int s = 0; s < segments.length && s < other.segments.length; s++) {
                Segment from = other.segments[s];
                Segment to = segments[s];
                if (from != null && to != null) {
                    to.copyFrom(from);
                }
            }
        }
    }

    /** An argument of a call: its place, the ring it goes by, and its copy, if the call went outward. */
    private static final class Argument {
        int segment, word, ring;
        int copy;
        boolean isSet;

        void copyFrom(Argument other) {
            segment = other.segment;
            word = other.word;
            ring = other.ring;
            copy = other.copy;
            isSet = other.isSet;
        }
    }

    /** A frame: where it goes back to, and the arguments of its call. */
    private static final class Frame {
        int segment, word, ring;
        boolean outward;
        int size;
        final Argument[] arguments = new Argument[ARGUMENTS];

        Frame() {
            for (int i = 0; i < arguments.length; i++) {
                arguments[i] = new Argument();
            }
        }

        Argument argumentAt(int i) {
            return i >= 0 && i < size && i < arguments.length ? arguments[i] : null;
        }

        void copyFrom(Frame other) {
            segment = other.segment;
            word = other.word;
            ring = other.ring;
            outward = other.outward;
            size = other.size;
            for (int i = 0; i < arguments.length && i < other.arguments.length; i++) {
                Argument from = other.arguments[i];
                Argument to = arguments[i];
                if (from != null && to != null) {
                    to.copyFrom(from);
                }
            }
        }
    }

    /** Each ring's own stack. */
    private static final class Stacks {
        final int[] heights = new int[RINGS];
        final Frame[] frames = new Frame[RINGS * FRAMES];

        Stacks() {
            for (int i = 0; i < frames.length; i++) {
                frames[i] = new Frame();
            }
        }

        int heightOf(int ring) {
            return ring >= 0 && ring < heights.length ? heights[ring] : 0;
        }

        Frame frameAt(int ring, int k) {
            if (k < 0 || k >= heightOf(ring) || k >= FRAMES) {
                return null;
            }
            int i = ring * FRAMES + k;
            return i >= 0 && i < frames.length ? frames[i] : null;
        }

        Frame latestOf(int ring) {
            return frameAt(ring, heightOf(ring) - 1);
        }

        boolean push(int ring, Frame pushed) {
            if (pushed == null || ring < 0 || ring >= heights.length || heights[ring] >= FRAMES) {
                return false;
            }
            heights[ring]++;
            Frame top = latestOf(ring);
            if (top != null) {
                top.copyFrom(pushed);
            }
            return true;
        }

        void pop(int ring) {
            if (ring >= 0 && ring < heights.length && heights[ring] > 0) {
                heights[ring]--;
            }
        }

        int framesOfAll() {
            int n = 0;
            for (int ring = 0; ring < heights.length; ring++) {
                n += heights[ring];
            }
            return n;
        }

        void clear() {
            for (int ring = 0; ring < heights.length; ring++) {
                heights[ring] = 0;
            }
        }

        void copyFrom(Stacks other) {
            clear();
            for (int ring = 0; ring < RINGS; ring++) {
                for (int k = 0; k < other.heightOf(ring); k++) {
                    push(ring, other.frameAt(ring, k));
                }
            }
        }
    }

    /** The machine, and the world in which it acts: all that an image keeps. */
    private static final class Machine {
        final World world = new World();
        final Stacks stacks = new Stacks();
        int segment, word, ring = FIRST_RING, a;
        // A frame is built here first: a fault of a later argument must leave the stacks as they were.
        private final Frame building = new Frame();
        int operandSegment, operandWord, operandRing;
        private int fetched;
        int outcome;

        void begin(int s, int w, int r) {
            segment = s;
            word = w;
            ring = r;
            a = 0;
            stacks.clear();
        }

        // A RUN: its STEPS; outcome is its WHY.
        int drive(int n) {
            outcome = DONE;
            for (int steps = 0; steps < n; steps++) {
                int here = word;
                int told = actHere();
                outcome = told < 0 ? told : perform(told / 1000, told / 10 % 100, told % 10);
                if (outcome != DONE) {
                    word = here;
                    return outcome == HALTED ? steps + 1 : steps;
                }
            }
            return n;
        }

        // The ACT AT which it is, as word() tells it, or the FAULT.
        private int actHere() {
            Segment holder = world.find(segment);
            if (holder == null) {
                return NO_SEGMENT;
            }
            if (!holder.has(word)) {
                return NO_WORD;
            }
            if (!holder.letsGo(ring)) {
                return NO_ACCESS;
            }
            if (holder.kindAt(word) != ACT) {
                return holder.kindAt(word) == MISSING ? NOTHING_THERE : OTHER_KIND;
            }
            return holder.valueAt(word);
        }

        // No act changes anything but links before it is sure to have no FAULT.
        private int perform(int what, int w, int n) {
            word++;
            switch (what) {
                case ACT_HALT:
                    return HALTED;
                case ACT_TAKE:
                    return takeNumber(w, 0);
                case ACT_PUT:
                    return putNumber(w);
                case ACT_ADD:
                    return takeNumber(w, a);
                case ACT_GO:
                    return goTo(w);
                case ACT_CALL:
                    return callTo(w, n);
                case ACT_BACK:
                    return goBack();
                case ACT_ARG:
                    return readArgument(w);
                case ACT_SET:
                    return writeArgument(w);
                default:
                    if (a == 0) {
                        word = w;
                    }
                    return DONE;
            }
        }

        private int takeNumber(int w, int more) {
            int fault = seekOperand(segment, w, ring, true);
            if (fault == DONE) {
                fault = fetch(operandSegment, operandWord, operandRing);
            }
            if (fault == DONE) {
                a = more + fetched;
            }
            return fault;
        }

        private int putNumber(int w) {
            int fault = seekOperand(segment, w, ring, true);
            if (fault == DONE) {
                fault = faultOfStore(operandSegment, operandWord, operandRing);
            }
            if (fault == DONE) {
                store(operandSegment, operandWord, a);
            }
            return fault;
        }

        private int goTo(int w) {
            int fault = seekOperand(segment, w, ring, true);
            if (fault != DONE) {
                return fault;
            }
            Segment target = world.find(operandSegment);
            if (target == null) {
                return NO_SEGMENT;
            }
            if (!target.has(operandWord)) {
                return NO_WORD;
            }
            if (!target.letsGo(operandRing)) {
                return NO_ACCESS;
            }
            segment = operandSegment;
            word = operandWord;
            ring = operandRing;
            return DONE;
        }

        private int callTo(int w, int n) {
            int fault = seekOperand(segment, w, ring, true);
            if (fault != DONE) {
                return fault;
            }
            int toSegment = operandSegment;
            int toWord = operandWord;
            int into = world.ringEntered(toSegment, toWord, operandRing);
            if (into < 0) {
                return into;
            }
            building.segment = segment;
            building.word = word;
            building.ring = ring;
            building.outward = into > operandRing;
            building.size = n;
            for (int i = 0; i < n && i < ARGUMENTS; i++) {
                fault = seekOperand(segment, w + 1 + i, ring, true);
                if (fault != DONE) {
                    return fault;
                }
                keepPlace(building.argumentAt(i));
            }
            // Only now the copies: an OPERAND's FAULT of any argument comes ahead of theirs.
            fault = building.outward ? takeCopies() : DONE;
            if (fault != DONE) {
                return fault;
            }
            if (!stacks.push(into, building)) {
                return STACK_FULL;
            }
            segment = toSegment;
            word = toWord;
            ring = into;
            return DONE;
        }

        private void keepPlace(Argument argument) {
            if (argument != null) {
                argument.segment = operandSegment;
                argument.word = operandWord;
                argument.ring = operandRing;
                argument.isSet = false;
            }
        }

        private int takeCopies() {
            for (int i = 0; i < building.size && i < ARGUMENTS; i++) {
                Argument copied = building.argumentAt(i);
                if (copied != null) {
                    int fault = fetch(copied.segment, copied.word, copied.ring);
                    if (fault != DONE) {
                        return fault;
                    }
                    copied.copy = fetched;
                }
            }
            return DONE;
        }

        private int goBack() {
            Frame latest = stacks.latestOf(ring);
            if (latest == null) {
                return NO_WAY_BACK;
            }
            if (latest.outward) {
                int fault = putCopiesBack(latest);
                if (fault != DONE) {
                    return fault;
                }
            }
            stacks.pop(ring);
            segment = latest.segment;
            word = latest.word;
            ring = latest.ring;
            return DONE;
        }

        // All are tried before the first is put: a FAULT of a later one undoes them all.
        private int putCopiesBack(Frame latest) {
            for (int i = 0; i < latest.size; i++) {
                Argument tried = latest.argumentAt(i);
                if (tried != null && tried.isSet) {
                    int fault = faultOfStore(tried.segment, tried.word, tried.ring);
                    if (fault != DONE) {
                        return fault;
                    }
                }
            }
            for (int i = 0; i < latest.size; i++) {
                Argument put = latest.argumentAt(i);
                if (put != null && put.isSet) {
                    store(put.segment, put.word, put.copy);
                }
            }
            return DONE;
        }

        private Argument latestArgument(int i) {
            Frame latest = stacks.latestOf(ring);
            return latest == null ? null : latest.argumentAt(i);
        }

        private boolean isLatestOutward() {
            Frame latest = stacks.latestOf(ring);
            return latest != null && latest.outward;
        }

        private int readArgument(int i) {
            Argument read = latestArgument(i);
            if (read == null) {
                return NO_ARGUMENT;
            }
            if (isLatestOutward()) {
                a = read.copy;
                return DONE;
            }
            int fault = fetch(read.segment, read.word, Math.max(read.ring, ring));
            if (fault == DONE) {
                a = fetched;
            }
            return fault;
        }

        private int writeArgument(int i) {
            Argument written = latestArgument(i);
            if (written == null) {
                return NO_ARGUMENT;
            }
            if (isLatestOutward()) {
                written.copy = a;
                written.isSet = true;
                return DONE;
            }
            int fault = faultOfStore(written.segment, written.word, Math.max(written.ring, ring));
            if (fault == DONE) {
                store(written.segment, written.word, a);
            }
            return fault;
        }

        // OPERAND: DONE, or its FAULT; where it lies stands in operandSegment, -Word, -Ring.
        int seekOperand(int s, int w, int e, boolean inDeed) {
            operandSegment = s;
            operandWord = w;
            operandRing = e;
            for (int gone = 0; gone < LONGEST_CHAIN; gone++) {
                Segment holder = world.find(operandSegment);
                if (holder == null) {
                    return NO_SEGMENT;
                }
                if (!holder.has(operandWord)) {
                    return NO_WORD;
                }
                int kind = holder.kindAt(operandWord);
                boolean leadsOn = kind == POINTER || kind == INDIRECT || kind == SNAPPED || kind == LINK;
                if (gone == 0 && !leadsOn) {
                    return DONE;
                }
                int fault = goThrough(holder, kind, inDeed);
                if (fault != DONE) {
                    return fault;
                }
                if (kind != INDIRECT) {
                    return DONE;
                }
            }
            return CHAIN_TOO_LONG;
        }

        private int goThrough(Segment holder, int kind, boolean inDeed) {
            if (!holder.letsRead(operandRing)) {
                return NO_ACCESS;
            }
            if (kind == MISSING) {
                return NOTHING_THERE;
            }
            if (kind == NUMBER || kind == ACT) {
                return OTHER_KIND;
            }
            int srw = holder.valueAt(operandWord);
            if (kind == LINK) {
                int known = srw;
                int found = world.seek(holder, known / 100);
                if (found < 0) {
                    return NO_LINK;
                }
                srw = 1000 * found + 100 * operandRing + known % 100;
                if (inDeed) {
                    holder.become(operandWord, SNAPPED, srw, known);
                }
            }
            operandSegment = segmentIn(srw);
            operandWord = wordIn(srw);
            operandRing = Math.max(Math.max(operandRing, ringIn(srw)), holder.r1);
            return DONE;
        }

        private int fetch(int s, int w, int e) {
            Segment holder = world.find(s);
            if (holder == null) {
                return NO_SEGMENT;
            }
            if (!holder.has(w)) {
                return NO_WORD;
            }
            if (!holder.letsRead(e)) {
                return NO_ACCESS;
            }
            if (holder.kindAt(w) != NUMBER) {
                return holder.kindAt(w) == MISSING ? NOTHING_THERE : OTHER_KIND;
            }
            fetched = holder.valueAt(w);
            return DONE;
        }

        private int faultOfStore(int s, int w, int e) {
            Segment holder = world.find(s);
            if (holder == null) {
                return NO_SEGMENT;
            }
            if (!holder.has(w)) {
                return NO_WORD;
            }
            return holder.letsWrite(e) ? DONE : NO_ACCESS;
        }

        private void store(int s, int w, int v) {
            Segment holder = world.find(s);
            if (holder != null) {
                holder.become(w, NUMBER, v, 0);
            }
        }

        void copyFrom(Machine other) {
            world.copyFrom(other.world);
            stacks.copyFrom(other.stacks);
            segment = other.segment;
            word = other.word;
            ring = other.ring;
            a = other.a;
        }
    }

    /** The tape, and the words that its text tells. */
    private static final class Text {
        private final int[] bytes = new int[TAPE];
        int length;
        int words;
        // A ; parts two lines, so that there is one line more than bytes at most.
        private final int[] kinds = new int[TAPE + 1];
        private final int[] values = new int[TAPE + 1];
        private final int[] parts = new int[3];
        private int at;
        int fault;

        boolean append(int letter) {
            if (length < 0 || length >= bytes.length) {
                return false;
            }
            bytes[length] = letter;
            length++;
            return true;
        }

        int kindOf(int i) {
            return i >= 0 && i < words && i <= TAPE ? kinds[i] : MISSING;
        }

        int valueOf(int i) {
            return i >= 0 && i < words && i <= TAPE ? values[i] : 0;
        }

        // fault is -1 then, or the place of the FAULT.
        void read() {
            at = 0;
            words = 0;
            fault = -1;
            for (int line = 0; line <= TAPE; line++) {
                readLine();
                if (fault >= 0 || at >= length) {
                    return;
                }
                at++;
            }
        }

        private void readLine() {
            int k = readWord();
            String wanted = partsOf(k);
            for (int i = 0; i < wanted.length() && i < parts.length && fault < 0; i++) {
                readBlank();
                parts[i] = fault < 0 ? readPart(wanted.charAt(i)) : 0;
            }
            if (fault < 0 && !isLineEnd()) {
                fault = at;
            }
            if (fault < 0) {
                tellWord(k, wanted.length());
            }
        }

        private void tellWord(int k, int told) {
            switch (k) {
                case TEXT_NONE:
                    tell(MISSING, 0);
                    break;
                case TEXT_NUM:
                    tell(NUMBER, parts[0]);
                    break;
                case TEXT_PTR:
                    tell(POINTER, 1000 * parts[1] + 100 * parts[0] + parts[2]);
                    break;
                case TEXT_IND:
                    tell(INDIRECT, 1000 * parts[1] + 100 * parts[0] + parts[2]);
                    break;
                case TEXT_LINK:
                    tell(LINK, 100 * parts[0] + parts[1]);
                    break;
                default:
                    tell(ACT, 1000 * k + (told > 0 ? 10 * parts[0] : 0) + (told > 1 ? parts[1] : 0));
            }
        }

        private void tell(int kind, int value) {
            if (words >= 0 && words <= TAPE) {
                kinds[words] = kind;
                values[words] = value;
                words++;
            }
        }

        private int byteAt(int place) {
            return place >= 0 && place < length && place < bytes.length ? bytes[place] : -1;
        }

        private boolean isLineEnd() {
            return at >= length || byteAt(at) == ';';
        }

        private static boolean isLetter(int b) {
            return b >= 'a' && b <= 'z';
        }

        private static boolean isDigit(int b) {
            return b >= '0' && b <= '9';
        }

        private int readWord() {
            int end = at;
            while (end < length && isLetter(byteAt(end))) {
                end++;
            }
            for (int k = 0; k < TEXT_WORDS; k++) {
                if (isSpelled(spellingOf(k), end)) {
                    at = end;
                    return k;
                }
            }
            fault = at;
            return TEXT_WORDS;
        }

        private boolean isSpelled(String spelling, int end) {
            if (spelling.length() != end - at) {
                return false;
            }
            for (int i = 0; i < spelling.length(); i++) {
                if (byteAt(at + i) != spelling.charAt(i)) {
                    return false;
                }
            }
            return true;
        }

        // at never passes the length, so a text that ends too early has its FAULT there.
        private void readBlank() {
            if (byteAt(at) == ' ') {
                at++;
            } else {
                fault = at;
            }
        }

        private int readPart(char part) {
            switch (part) {
                case 'V':
                    return readSigned();
                case 'R':
                    return readNumber(2, RINGS - 1);
                case 'S':
                    return readNumber(2, SEGMENTS - 1);
                case 'W':
                    return readNumber(2, WORDS - 1);
                case 'N':
                    return readNumber(2, ARGUMENTS);
                case 'K':
                    return readNumber(2, ARGUMENTS - 1);
                default:
                    return readName();
            }
        }

        private int readSigned() {
            if (byteAt(at) != '-') {
                return readNumber(4, 9999);
            }
            at++;
            return -readNumber(4, 9999);
        }

        private int readNumber(int digits, int most) {
            int first = at;
            int v = 0;
            while (at < length && isDigit(byteAt(at))) {
                // Past so many digits it is no such number, whatever its value.
                v = at - first < digits ? 10 * v + byteAt(at) - '0' : v;
                at++;
            }
            if (at == first || at - first > digits || v > most) {
                fault = first;
            }
            return v;
        }

        private int readName() {
            int first = at;
            while (at < length && isLetter(byteAt(at))) {
                at++;
            }
            if (at - first != 1) {
                fault = first;
            }
            return byteAt(first) - 'a';
        }

        private static String spellingOf(int k) {
            switch (k) {
                case ACT_HALT:
                    return "halt";
                case ACT_TAKE:
                    return "take";
                case ACT_PUT:
                    return "put";
                case ACT_ADD:
                    return "add";
                case ACT_GO:
                    return "go";
                case ACT_CALL:
                    return "call";
                case ACT_BACK:
                    return "back";
                case ACT_ARG:
                    return "arg";
                case ACT_SET:
                    return "set";
                case ACT_TEST:
                    return "test";
                case TEXT_NUM:
                    return "num";
                case TEXT_PTR:
                    return "ptr";
                case TEXT_IND:
                    return "ind";
                case TEXT_NONE:
                    return "none";
                default:
                    return "link";
            }
        }

        private static String partsOf(int k) {
            switch (k) {
                case ACT_TAKE:
                case ACT_PUT:
                case ACT_ADD:
                case ACT_GO:
                case ACT_TEST:
                    return "W";
                case ACT_CALL:
                    return "WN";
                case ACT_ARG:
                case ACT_SET:
                    return "K";
                case TEXT_NUM:
                    return "V";
                case TEXT_PTR:
                case TEXT_IND:
                    return "RSW";
                case TEXT_LINK:
                    return "LW";
                default:
                    return "";
            }
        }
    }
}
