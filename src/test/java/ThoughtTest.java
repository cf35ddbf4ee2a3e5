/** Promises 27 to 36: what is done in thought, the image, and how many. */
public final class ThoughtTest {
    private static final Checks C = new Checks("ThoughtTest");
    private static final int MIN = Integer.MIN_VALUE, MAX = Integer.MAX_VALUE;
    private static final int VOID = -2000000000;

    public static void main(String[] args) {
        dry();
        dryChangesNothing();
        operand();
        chains();
        enters();
        access();
        ways();
        stale();
        drawn();
        image();
        imageKeepsAll();
        count();
        C.end();
    }

    private static RingGates two(int first, int second) {
        RingGates x = new RingGates();
        x.segment(0, 0, 24);
        x.segment(0, 1, 24);
        x.brackets(0, first);
        x.brackets(1, second);
        return x;
    }

    private static void dryAll(RingGates x, int n, int... due) {
        for (int what = 0; what < due.length; what++) {
            C.due("dry(" + n + ", " + what + ")", x.dry(n, what), due[what]);
        }
    }

    private static void dry() {
        RingGates x = two(127, 567);
        C.load(x, 0, 0, "take 4;call 2 0;ptr 0 1 0;halt;num 6", 5);
        C.load(x, 1, 0, "add 2;halt;num 1", 3);
        x.start(0, 0, 1);
        C.due("dry(0, 0)", x.dry(0, 0), VOID);
        C.due("dry(201, 0)", x.dry(201, 0), VOID);
        C.due("dry(1, 5)", x.dry(1, 5), VOID);
        C.due("dry(1, -1)", x.dry(1, -1), VOID);
        dryAll(x, 1, 1, 0, 6, 1, 0);
        dryAll(x, 2, 2, 0, 6, 5, 1);
        dryAll(x, 3, 3, 0, 7, 5, 1);
        dryAll(x, 4, 4, 1, 7, 5, 1);
        dryAll(x, 200, 4, 1, 7, 5, 1);
        x.number(1, 1, 1);
        dryAll(x, 200, 3, -24, 7, 5, 1);
        C.due("why() is of runs in deed", x.why(), 0);
        C.machine(x, 0, 0, 1, 0);
        C.run(x, 2, 2, 0);
        dryAll(x, 1, 1, 0, 7, 5, 1);
        dryAll(x, 2, 1, -24, 7, 5, 1);
        C.due("why()", x.why(), 0);
    }

    private static void dryChangesNothing() {
        RingGates x = two(444, 444);
        C.load(x, 0, 0, "put 5;take 6;call 7 0;none;none;num 3;link b 1;ptr 0 1 2", 8);
        C.load(x, 1, 1, "num 4;put 1;back", 3);
        x.start(0, 0, 4);
        dryAll(x, 5, 5, 0, 4, 4, 0);
        dryAll(x, 6, 5, -23, 4, 4, 0);
        C.word(x, 0, 5, 1, 3, 0);
        C.word(x, 0, 6, 4, 101, 0);
        C.word(x, 1, 1, 1, 4, 0);
        C.machine(x, 0, 0, 4, 0);
        C.due("machine(14)", x.machine(14), 0);
        C.due("count(7)", x.count(7), 0);
        // In thought a link that was snapped is a pointer with the ring that snapped it.
        x = two(27, 677);
        x.segment(0, 2, 8);
        x.brackets(2, 77);
        C.load(x, 0, 0, "take 3;go 2;ptr 2 0 4;link c 0;go 5;ptr 7 2 1", 6);
        C.load(x, 2, 0, "num 5;take 0;halt", 3);
        x.start(0, 0, 0);
        dryAll(x, 200, 5, 1, 5, 7, 0);
        C.word(x, 0, 3, 4, 200, 0);
        C.run(x, 200, 5, 1);
        C.word(x, 0, 3, 5, 2000, 200);
    }

    private static void operand() {
        RingGates x = two(444, 444);
        x.resize(0, 8);
        C.load(x, 0, 0, "none;num 1;halt;ptr 6 9 23;ind 0 1 0;link b 9;link z 1;ind 0 0 5", 8);
        C.load(x, 1, 0, "ptr 5 1 20", 1);
        C.due("operand(2, 0, 4, 0)", x.operand(2, 0, 4, 0), -1);
        C.due("operand(-1, 0, 4, 0)", x.operand(-1, 0, 4, 0), -1);
        C.due("operand(0, 8, 4, 0)", x.operand(0, 8, 4, 0), -1);
        C.due("operand(0, -1, 4, 0)", x.operand(0, -1, 4, 0), -1);
        C.due("operand(0, 0, 8, 0)", x.operand(0, 0, 8, 0), -1);
        C.due("operand(0, 0, -1, 0)", x.operand(0, 0, -1, 0), -1);
        C.due("operand(0, 0, 4, 3)", x.operand(0, 0, 4, 3), -1);
        C.due("operand(0, 0, 4, -1)", x.operand(0, 0, 4, -1), -1);
        int[][] due = {{2, 0, 0}, {2, 0, 1}, {2, 0, 2}, {6, 9, 23}, {5, 1, 20}, {4, 1, 9}, {-26, -26, -26}, {4, 1, 9}};
        for (int w = 0; w < due.length; w++) {
            for (int what = 0; what < 3; what++) {
                C.due("operand(0, " + w + ", 2, " + what + ")", x.operand(0, w, 2, what), due[w][what]);
            }
        }
        C.word(x, 0, 5, 4, 109, 0);
        // What is not gone through needs no READ.
        C.due("operand(0, 1, 7, 0)", x.operand(0, 1, 7, 0), 7);
        C.due("operand(0, 3, 7, 0)", x.operand(0, 3, 7, 0), -22);
        C.due("operand(0, 6, 5, 0)", x.operand(0, 6, 5, 0), -22);
        x.pointer(0, 4, 12000, true);
        C.due("operand to no segment", x.operand(0, 4, 4, 0), -20);
        x.pointer(0, 4, 8, true);
        C.due("operand to no word", x.operand(0, 4, 4, 0), -21);
        x.pointer(0, 4, 0, true);
        C.due("operand to MISSING", x.operand(0, 4, 4, 0), -23);
        x.pointer(0, 4, 1, true);
        C.due("operand to a NUMBER", x.operand(0, 4, 4, 0), -24);
        x.pointer(0, 4, 2, true);
        C.due("operand to an ACT", x.operand(0, 4, 4, 0), -24);
    }

    private static void chains() {
        RingGates x = two(444, 444);
        for (int w = 0; w < 6; w++) {
            x.pointer(0, w, w + 1, true);
        }
        String[] ends = {"ind 0 9 0", "ind 0 1 9", "ptr 0 9 0", "num 1", "link z 0", "none"};
        for (String end : ends) {
            C.load(x, 0, 6, end, 1);
            C.due("the seventh is " + end, x.operand(0, 0, 4, 0), -25);
        }
        x.pointer(0, 5, 9000, true);
        C.due("the seventh in no segment", x.operand(0, 0, 4, 0), -25);
        C.due("as the sixth", x.operand(0, 1, 4, 0), -20);
        x.pointer(0, 5, 9000, false);
        C.due("the sixth is the last", x.operand(0, 0, 4, 1), 9);
        x.link(0, 5, 1, 3);
        C.due("the sixth is a link", x.operand(0, 0, 4, 2), 3);
        x.pointer(0, 0, 0, true);
        C.due("a chain to itself", x.operand(0, 0, 4, 0), -25);
        x.set(0, 0, 0);
        C.due("the first can't be read", x.operand(0, 0, 4, 0), -22);
    }

    private static void enters() {
        RingGates x = two(246, 777);
        x.resize(0, 8);
        x.set(0, 1, 3);
        C.due("enters(-1, 0, 0)", x.enters(-1, 0, 0), -1);
        C.due("enters(16, 0, 0)", x.enters(16, 0, 0), -1);
        C.due("enters(0, -1, 0)", x.enters(0, -1, 0), -1);
        C.due("enters(0, 24, 0)", x.enters(0, 24, 0), -1);
        C.due("enters(0, 0, -1)", x.enters(0, 0, -1), -1);
        C.due("enters(0, 0, 8)", x.enters(0, 0, 8), -1);
        C.due("enters(2, 0, 0)", x.enters(2, 0, 0), -20);
        C.due("enters(0, 8, 0)", x.enters(0, 8, 0), -21);
        int[] gated = {2, 2, 2, 3, 4, 4, 4, -28};
        int[] ungated = {2, 2, 2, 3, 4, -27, -27, -28};
        for (int ring = 0; ring < 8; ring++) {
            C.due("enters(0, 2, " + ring + ")", x.enters(0, 2, ring), gated[ring]);
            C.due("enters(0, 3, " + ring + ")", x.enters(0, 3, ring), ungated[ring]);
            C.due("enters(1, 0, " + ring + ")", x.enters(1, 0, ring), 7);
        }
        x.set(0, 0, 3);
        C.due("enters(0, 3, 7) without GO", x.enters(0, 3, 7), -22);
        C.due("enters(0, 9, 7) without GO", x.enters(0, 9, 7), -21);
        x.set(0, 0, 4);
        C.due("enters(0, 3, 1) with GO alone", x.enters(0, 3, 1), 2);
    }

    private static void access() {
        RingGates x = two(247, 444);
        C.due("access(2, 0)", x.access(2, 0), -1);
        C.due("access(-1, 0)", x.access(-1, 0), -1);
        C.due("access(0, 8)", x.access(0, 8), -1);
        C.due("access(0, -1)", x.access(0, -1), -1);
        int[] due = {3, 3, 7, 5, 5, 0, 0, 0};
        for (int may = 0; may < 8; may++) {
            x.set(0, 0, may);
            for (int ring = 0; ring < 8; ring++) {
                C.due("access(0, " + ring + "), may " + may, x.access(0, ring), due[ring] & may);
            }
        }
    }

    private static void ways() {
        RingGates x = new RingGates();
        C.due("ways(-1, 0)", x.ways(-1, 0), -1);
        C.due("ways(8, 0)", x.ways(8, 0), -1);
        C.due("ways(0, 8)", x.ways(0, 8), -1);
        C.due("ways(0, -2)", x.ways(0, -2), -1);
        for (int ring = 0; ring < 8; ring++) {
            C.due("no segments: ways to itself", x.ways(ring, ring), 0);
            C.due("no segments: ways(ring, -1)", x.ways(ring, -1), ring);
        }
        C.due("no segments: ways(1, 2)", x.ways(1, 2), -2);
        // One gate a ring down, from 7 to 0.
        for (int s = 0; s < 7; s++) {
            x.segment(0, s, 4);
            x.brackets(s, 111 * s + 1);
            x.set(s, 1, 1);
        }
        for (int from = 0; from < 8; from++) {
            for (int to = 0; to <= from; to++) {
                C.due("ways(" + from + ", " + to + ")", x.ways(from, to), from - to);
            }
            C.due("ways(" + from + ", -1)", x.ways(from, -1), 0);
        }
        C.due("ways(0, 6): outward", x.ways(0, 6), 1);
        C.due("ways(6, 7)", x.ways(6, 7), -2);
        x.set(3, 1, 0);
        C.due("ways(7, 0): ring 3 has no gate", x.ways(7, 0), -2);
        C.due("ways(7, -1)", x.ways(7, -1), 4);
        C.due("ways(3, 0)", x.ways(3, 0), 3);
        x.brackets(4, 457);
        C.due("ways(7, 5)", x.ways(7, 5), 1);
        C.due("ways(7, 4)", x.ways(7, 4), -2);
        C.due("ways(7, -1)", x.ways(7, -1), 5);
        C.due("ways(3, 4)", x.ways(3, 4), 1);
        x.set(4, 0, 3);
        C.due("ways(3, 4) without GO", x.ways(3, 4), -2);
        x.drop(5);
        C.due("ways(3, 5)", x.ways(3, 5), -2);
    }

    private static void stale() {
        RingGates x = two(444, 444);
        x.directory(0);
        x.segment(1, 2, 1);
        x.rule(1);
        C.load(x, 0, 0, "take 3;take 4;take 5;link b 0;link c 0;link b 0;link z 0", 7);
        x.number(1, 0, 1);
        x.number(2, 0, 2);
        x.start(0, 0, 4);
        C.run(x, 3, 3, 0);
        C.due("stale()", x.stale(), 0);
        x.rename(1, 9);
        C.due("stale(): b is gone", x.stale(), 2);
        x.rename(1, 1);
        C.due("stale(): b is back", x.stale(), 0);
        x.segment(0, 2, 1);
        C.due("stale(): another c is nearer", x.stale(), 1);
        x.drop(1);
        C.due("stale(): and b is dropped", x.stale(), 3);
        x.segment(0, 1, 1);
        C.due("stale(): a new b of the same number", x.stale(), 1);
        x.drop(0);
        C.due("stale(): none holds them", x.stale(), 0);
        C.due("count(7)", x.count(7), 0);
    }

    private static void drawn() {
        RingGates x = new RingGates();
        C.due("drawn(1, 0)", x.drawn(1, 0), -1);
        C.due("drawn(1, -1)", x.drawn(1, -1), -1);
        C.due("drawn(1, 201)", x.drawn(1, 201), -1);
        C.due("drawn(1, 200), no segments", x.drawn(1, 200), 0);
        int[] rrrs = {444, 257, 7, 777, 77, 135, 0, 366};
        for (int s = 0; s < rrrs.length; s++) {
            x.segment(0, s, 1);
            x.brackets(s, rrrs[s]);
            x.set(s, 0, 7 - s % 4);
        }
        int[][] has = new int[16][8];
        for (int s = 0; s < 16; s++) {
            for (int ring = 0; ring < 8; ring++) {
                has[s][ring] = x.access(s, ring);
            }
        }
        int[] seeds = {0, 1, -1, 12345, MIN, MAX, 987654321};
        for (int seed : seeds) {
            for (int n = 1; n <= 200; n += n < 20 ? 1 : 60) {
                C.due("drawn(" + seed + ", " + n + ")", x.drawn(seed, n), drawnByAccess(has, seed, n));
            }
        }
        // By hand: the first draw of seed 0 is of 12345, ring 0, segment 6, READ.
        x = new RingGates();
        for (int s = 0; s < 7; s++) {
            x.segment(0, s, 1);
        }
        C.due("drawn(0, 1)", x.drawn(0, 1), 1);
        x.set(6, 0, 6);
        C.due("drawn(0, 1) without READ", x.drawn(0, 1), 0);
        x.set(6, 0, 1);
        C.due("drawn(0, 1) with READ alone", x.drawn(0, 1), 1);
        x.drop(6);
        C.due("drawn(0, 1) without the segment", x.drawn(0, 1), 0);
    }

    private static int drawnByAccess(int[][] access, int seed, int n) {
        int granted = 0;
        long z = seed;
        for (int i = 0; i < n; i++) {
            z = (int) (z * 1103515245L + 12345L);
            long bits = z & 0xffffffffL;
            int has = access[(int) (bits / 2048 % 16)][(int) (bits / 256 % 8)];
            int[] masks = {1, 2, 4};
            if (has > 0 && (has & masks[(int) (bits / 65536 % 3)]) != 0) {
                granted++;
            }
        }
        return granted;
    }

    private static void image() {
        RingGates x = two(444, 444);
        C.due("back(): there is none", x.back(), -5);
        C.due("image()", x.image(), 2);
        x.drop(0);
        C.due("back()", x.back(), 2);
        C.due("of(0, 2)", x.of(0, 2), 24);
        x.segment(0, 2, 1);
        C.due("back() once more", x.back(), 2);
        C.due("of(2, 2)", x.of(2, 2), -1);
        C.due("count(8)", x.count(8), 2);
        x.drop(0);
        C.due("image() anew", x.image(), 1);
        x.drop(1);
        C.due("back() to the later one", x.back(), 1);
        C.due("of(0, 2)", x.of(0, 2), -1);
        x = new RingGates();
        C.due("image() of a new one", x.image(), 0);
        x.segment(0, 0, 1);
        C.due("back() to nothing", x.back(), 0);
        C.due("segment(0, 0, 1)", x.segment(0, 0, 1), 0);
        C.due("of(0, 8)", x.of(0, 8), 1);
    }

    private static void imageKeepsAll() {
        RingGates x = two(127, 567);
        x.directory(0);
        x.quota(1, 9);
        x.rule(0);
        x.rule(1);
        x.segment(1, 4, 3);
        C.load(x, 0, 0, "call 2 2;halt;ptr 0 1 0;num 10;link b 5", 5);
        C.load(x, 1, 0, "set 1;back;none;none;none;num 20", 6);
        x.set(1, 1, 3);
        x.start(0, 0, 1);
        C.run(x, 2, 2, 0);
        C.due("image()", x.image(), 3);
        C.run(x, 200, 2, 1);
        C.word(x, 1, 5, 1, 0, 0);
        x.brackets(1, 116);
        x.brackets(0, 777);
        x.set(0, 0, 0);
        x.set(1, 1, 0);
        x.rename(0, 20);
        x.resize(0, 2);
        x.resize(1, 1);
        x.directory(1);
        x.segment(2, 1, 1);
        x.quota(1, -9);
        x.rule(-1);
        x.rule(0);
        x.drop(2);
        x.segment(0, 7, 20);
        x.start(7, 7, 7);
        x.feed(97);
        C.due("back()", x.back(), 3);
        C.due("why() stays", x.why(), 1);
        int[] counts = {2, 3, 2, 1, 2, 64, 7, 1, 3};
        for (int what = 0; what < counts.length; what++) {
            C.due("count(" + what + ")", x.count(what), counts[what]);
        }
        int[] first = {0, 0, 24, 1, 2, 7, 7, 0, 1, 3};
        int[] second = {0, 1, 24, 5, 6, 7, 7, 3, 2, 3};
        int[] third = {1, 4, 3, 4, 4, 4, 7, 0, 3, 1};
        for (int what = 0; what < first.length; what++) {
            C.due("of(0, " + what + ")", x.of(0, what), first[what]);
            C.due("of(1, " + what + ")", x.of(1, what), second[what]);
            C.due("of(2, " + what + ")", x.of(2, what), third[what]);
        }
        C.word(x, 0, 4, 5, 1105, 105);
        C.word(x, 1, 5, 1, 20, 0);
        C.due("cell(1, 1)", x.cell(1, 1), 9);
        C.due("lookup(0, 4): the rules are back", x.lookup(0, 4), 2);
        C.machine(x, 1, 1, 5, 0);
        int[] frame = {0, 1, 1, 2, 1};
        for (int what = 0; what < frame.length; what++) {
            C.due("frame(5, 0, " + what + ")", x.frame(5, 0, what), frame[what]);
        }
        C.due("of a second frame", x.frame(5, 1, 0), -2);
        // The copies lie back, too: argument 1 was set.
        x.brackets(1, 67);
        x.act(1, 1, 7, 0, 0);
        C.run(x, 1, 1, 0);
        C.due("machine(3): the copy of argument 0", x.machine(3), 10);
        x.act(1, 2, 6, 0, 0);
        C.run(x, 1, 0, -22);
        x.brackets(1, 167);
        C.run(x, 1, 1, 0);
        C.word(x, 1, 5, 1, 0, 0);
        C.word(x, 0, 3, 1, 10, 0);
    }

    private static void count() {
        RingGates x = two(444, 444);
        C.due("count(-1)", x.count(-1), -1);
        C.due("count(9)", x.count(9), -1);
        C.due("count(MIN)", x.count(MIN), -1);
        x.directory(0);
        x.directory(1);
        x.quota(2, 3);
        x.segment(2, 0, 9);
        x.drop(1);
        x.rule(2);
        x.rule(2);
        Checks.feed(x, "abc");
        int[] due = {3, 2, 2, 3, 2, 64, 5, 0, 3};
        for (int what = 0; what < due.length; what++) {
            C.due("count(" + what + ")", x.count(what), due[what]);
        }
    }
}
