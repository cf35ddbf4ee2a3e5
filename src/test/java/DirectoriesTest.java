/** Promises 1 to 13: a new object; directories, segments, quota. */
public final class DirectoriesTest {
    private static final Checks C = new Checks("DirectoriesTest");
    private static final int MIN = Integer.MIN_VALUE, MAX = Integer.MAX_VALUE;

    public static void main(String[] args) {
        newObject();
        directory();
        segment();
        segmentOrderOfAnswers();
        drop();
        resize();
        rename();
        brackets();
        set();
        quota();
        quotaAsCellsWouldBe();
        cell();
        of();
        rule();
        lookup();
        C.end();
    }

    private static void newObject() {
        RingGates x = new RingGates();
        C.due("BAD", RingGates.BAD, -1);
        C.due("NOT", RingGates.NOT, -2);
        C.due("FULL", RingGates.FULL, -3);
        C.due("STATE", RingGates.STATE, -5);
        C.due("VOID", RingGates.VOID, -2000000000);
        int[] counts = {1, 0, 0, 0, 1, 64, 0, 0, 0};
        for (int what = 0; what < counts.length; what++) {
            C.due("new: count(" + what + ")", x.count(what), counts[what]);
        }
        C.machine(x, 0, 0, 4, 0);
        for (int ring = 0; ring < 8; ring++) {
            C.due("new: machine(1r)", x.machine(10 + ring), 0);
        }
        C.due("new: why()", x.why(), 0);
        C.due("new: back()", x.back(), -5);
        C.due("new: of(0, 0)", x.of(0, 0), -1);
        C.due("new: stale()", x.stale(), 0);
        C.run(x, 5, 0, -20);
    }

    private static void directory() {
        RingGates x = new RingGates();
        C.due("directory(-1)", x.directory(-1), -1);
        C.due("directory(1)", x.directory(1), -1);
        C.due("directory(MIN)", x.directory(MIN), -1);
        C.due("directory(MAX)", x.directory(MAX), -1);
        for (int d = 1; d < 8; d++) {
            C.due("directory", x.directory(d / 2), d);
        }
        C.due("cell(7, 0)", x.cell(7, 0), 3);
        C.due("cell(1, 0)", x.cell(1, 0), 0);
        C.due("cell(1, 1)", x.cell(1, 1), 0);
        C.due("directory(0), the ninth", x.directory(0), -3);
        C.due("directory(7), the ninth", x.directory(7), -3);
        C.due("directory(8), the ninth", x.directory(8), -1);
        C.due("count(0)", x.count(0), 8);
    }

    private static void segment() {
        RingGates x = new RingGates();
        C.due("segment(0, 0, 1)", x.segment(0, 0, 1), 0);
        C.due("segment(0, 25, 24)", x.segment(0, 25, 24), 1);
        C.due("segment(0, 0, 1) again", x.segment(0, 0, 1), -5);
        C.due("directory(0)", x.directory(0), 1);
        C.due("segment(1, 0, 1)", x.segment(1, 0, 1), 2);
        int[] due = {1, 0, 1, 4, 4, 4, 7, 0, 3, 1};
        for (int what = 0; what < due.length; what++) {
            C.due("of(2, " + what + ")", x.of(2, what), due[what]);
        }
        C.word(x, 2, 0, 0, 0, 0);
        C.due("drop(1)", x.drop(1), 3);
        C.due("segment takes the least number", x.segment(0, 9, 8), 1);
        C.due("its serial", x.of(1, 8), 4);
        // Nothing of the segment that had the number before it stays.
        C.due("number(1, 7, 5)", x.number(1, 7, 5), 1);
        C.due("brackets(1, 127)", x.brackets(1, 127), 444);
        C.due("set(1, 0, 1)", x.set(1, 0, 1), 7);
        C.due("set(1, 1, 8)", x.set(1, 1, 8), 0);
        C.due("drop(1)", x.drop(1), 1);
        C.due("segment(0, 9, 24)", x.segment(0, 9, 24), 1);
        int[] anew = {0, 9, 24, 4, 4, 4, 7, 0, 5, 3};
        for (int what = 0; what < anew.length; what++) {
            C.due("anew: of(1, " + what + ")", x.of(1, what), anew[what]);
        }
        C.word(x, 1, 7, 0, 0, 0);
    }

    private static void segmentOrderOfAnswers() {
        RingGates x = new RingGates();
        C.due("segment(9, 99, -1)", x.segment(9, 99, -1), -14);
        C.due("segment(0, 0, MIN)", x.segment(0, 0, MIN), -14);
        C.due("segment(0, 0, 0)", x.segment(0, 0, 0), -1);
        C.due("segment(0, 0, 25)", x.segment(0, 0, 25), -1);
        C.due("segment(0, 0, MAX)", x.segment(0, 0, MAX), -1);
        C.due("segment(0, -1, 1)", x.segment(0, -1, 1), -1);
        C.due("segment(0, 26, 1)", x.segment(0, 26, 1), -1);
        C.due("segment(1, 0, 1)", x.segment(1, 0, 1), -1);
        C.due("segment(-1, 0, 1)", x.segment(-1, 0, 1), -1);
        C.due("count(8): none was made", x.count(8), 0);
        for (int s = 0; s < 16; s++) {
            C.due("segment", x.segment(0, s, 24), s);
        }
        C.due("count(6)", x.count(6), 48);
        C.due("segment, the 17th, name there", x.segment(0, 0, 1), -3);
        C.due("segment, the 17th", x.segment(0, 20, 1), -3);
        C.due("segment, the 17th, length 25", x.segment(0, 20, 25), -1);
        C.due("segment, the 17th, length -1", x.segment(0, 20, -1), -14);
        C.due("count(8)", x.count(8), 16);
    }

    private static void drop() {
        RingGates x = new RingGates();
        x.segment(0, 0, 8);
        x.segment(0, 1, 9);
        C.due("drop(-1)", x.drop(-1), -1);
        C.due("drop(2)", x.drop(2), -1);
        C.due("drop(16)", x.drop(16), -1);
        C.due("drop(MIN)", x.drop(MIN), -1);
        C.due("drop(0)", x.drop(0), 1);
        C.due("drop(0) again", x.drop(0), -1);
        C.due("drop(1)", x.drop(1), 2);
        C.due("count(1)", x.count(1), 0);
        C.due("count(6)", x.count(6), 0);
        C.due("count(8)", x.count(8), 2);
        C.due("word(1, 0, 0)", x.word(1, 0, 0), -2000000000);
    }

    private static void resize() {
        RingGates x = new RingGates();
        x.segment(0, 0, 8);
        x.directory(0);
        C.due("resize(5, -1)", x.resize(5, -1), -14);
        C.due("resize(0, MIN)", x.resize(0, MIN), -14);
        C.due("resize(5, 1)", x.resize(5, 1), -1);
        C.due("resize(0, 0)", x.resize(0, 0), -1);
        C.due("resize(0, 25)", x.resize(0, 25), -1);
        C.due("set(0, 1, 8)", x.set(0, 1, 8), 0);
        for (int w = 0; w < 8; w++) {
            x.number(0, w, w + 1);
        }
        C.due("resize(0, 5)", x.resize(0, 5), 8);
        C.due("gates are the length at most", x.of(0, 7), 5);
        C.due("word beyond", x.word(0, 5, 0), -2000000000);
        C.due("resize(0, 24)", x.resize(0, 24), 5);
        C.due("gates stay", x.of(0, 7), 5);
        C.word(x, 0, 4, 1, 5, 0);
        C.word(x, 0, 5, 0, 0, 0);
        C.word(x, 0, 7, 0, 0, 0);
        C.due("of(0, 9)", x.of(0, 9), 3);
        C.due("segment(1, 0, 8)", x.segment(1, 0, 8), 1);
        C.due("quota(1, 1)", x.quota(1, 1), 1);
        C.due("resize(1, 9) above the quota", x.resize(1, 9), -5);
        C.due("of(1, 2)", x.of(1, 2), 8);
        C.due("resize(1, 3)", x.resize(1, 3), 8);
        C.due("resize(1, 8): the same records", x.resize(1, 8), 3);
        C.due("quota(1, 1)", x.quota(1, 1), 2);
        C.due("resize(1, 17)", x.resize(1, 17), -5);
        C.due("resize(1, 16)", x.resize(1, 16), 8);
        C.due("resize(1, 16) again", x.resize(1, 16), 16);
    }

    private static void rename() {
        RingGates x = new RingGates();
        x.directory(0);
        x.segment(0, 3, 1);
        x.segment(0, 4, 1);
        x.segment(1, 5, 1);
        C.due("rename(3, 0)", x.rename(3, 0), -1);
        C.due("rename(-1, 0)", x.rename(-1, 0), -1);
        C.due("rename(0, -1)", x.rename(0, -1), -1);
        C.due("rename(0, 26)", x.rename(0, 26), -1);
        C.due("rename(0, 4)", x.rename(0, 4), -5);
        C.due("rename(0, 3)", x.rename(0, 3), 3);
        C.due("rename(0, 5)", x.rename(0, 5), 3);
        C.due("of(0, 1)", x.of(0, 1), 5);
        C.due("rename(1, 5): the first segment has it", x.rename(1, 5), -5);
        C.due("rename(1, 3)", x.rename(1, 3), 4);
        C.due("rename(2, 25)", x.rename(2, 25), 5);
    }

    private static void brackets() {
        RingGates x = new RingGates();
        x.segment(0, 3, 1);
        int[] bad = {-1, -444, 8, 100, 201, 706, 80, 800, 778, 787, 877, 210, 243, 543, 435, 1000, 1777, 4444, MIN, MAX};
        for (int rrr : bad) {
            C.due("brackets(0, " + rrr + ")", x.brackets(0, rrr), -1);
        }
        C.due("brackets(1, 444)", x.brackets(1, 444), -1);
        C.due("brackets(0, 0)", x.brackets(0, 0), 444);
        C.due("brackets(0, 7)", x.brackets(0, 7), 0);
        C.due("brackets(0, 17)", x.brackets(0, 17), 7);
        C.due("brackets(0, 777)", x.brackets(0, 777), 17);
        C.due("brackets(0, 123)", x.brackets(0, 123), 777);
        C.due("of(0, 3)", x.of(0, 3), 1);
        C.due("of(0, 4)", x.of(0, 4), 2);
        C.due("of(0, 5)", x.of(0, 5), 3);
    }

    private static void set() {
        RingGates x = new RingGates();
        x.segment(0, 3, 5);
        C.due("set(1, 0, 0)", x.set(1, 0, 0), -1);
        C.due("set(0, 2, 0)", x.set(0, 2, 0), -1);
        C.due("set(0, -1, 0)", x.set(0, -1, 0), -1);
        C.due("set(0, 0, -1)", x.set(0, 0, -1), -1);
        C.due("set(0, 0, 8)", x.set(0, 0, 8), -1);
        C.due("set(0, 1, -1)", x.set(0, 1, -1), -1);
        C.due("set(0, 1, 6)", x.set(0, 1, 6), -1);
        C.due("set(0, 0, 0)", x.set(0, 0, 0), 7);
        C.due("set(0, 0, 7)", x.set(0, 0, 7), 0);
        C.due("set(0, 0, 5)", x.set(0, 0, 5), 7);
        C.due("set(0, 1, 5)", x.set(0, 1, 5), 0);
        C.due("set(0, 1, 0)", x.set(0, 1, 0), 5);
        C.due("of(0, 6)", x.of(0, 6), 5);
        C.due("of(0, 7)", x.of(0, 7), 0);
    }

    private static void quota() {
        RingGates x = new RingGates();
        C.due("quota(0, 1)", x.quota(0, 1), -1);
        C.due("quota(1, 1)", x.quota(1, 1), -1);
        C.due("quota(-1, 1)", x.quota(-1, 1), -1);
        x.directory(0);
        x.directory(1);
        C.due("quota(1, -1)", x.quota(1, -1), -5);
        C.due("quota(1, 0)", x.quota(1, 0), 0);
        C.due("quota(1, 64): the root less than 1", x.quota(1, 64), -5);
        C.due("quota(1, MAX)", x.quota(1, MAX), -5);
        C.due("quota(1, MIN)", x.quota(1, MIN), -5);
        C.due("quota(1, 63)", x.quota(1, 63), 63);
        C.due("quota(2, 63): directory 1 may have 0", x.quota(2, 63), 63);
        C.due("cell(1, 1)", x.cell(1, 1), 0);
        C.due("count(4)", x.count(4), 2);
        C.due("quota(2, -60) goes to the root now", x.quota(2, -60), 3);
        C.due("cell(0, 1)", x.cell(0, 1), 61);
        C.due("quota(1, 5)", x.quota(1, 5), 5);
        C.due("quota(2, 6): directory 1 below 0", x.quota(2, 6), -5);
        C.due("quota(2, 2)", x.quota(2, 2), 5);
        C.due("quota(2, -6)", x.quota(2, -6), -5);
        C.due("cell(1, 1)", x.cell(1, 1), 3);
        C.due("count(5): never lost", x.count(5), 64);
    }

    private static void quotaAsCellsWouldBe() {
        RingGates x = new RingGates();
        x.directory(0);
        x.directory(1);
        x.segment(1, 0, 16);
        x.segment(2, 0, 24);
        x.segment(0, 0, 8);
        C.due("quota(1, 4): 5 are used", x.quota(1, 4), -5);
        C.due("cell(1, 3)", x.cell(1, 3), 0);
        C.due("quota(1, 5)", x.quota(1, 5), 5);
        C.due("quota(1, -1)", x.quota(1, -1), -5);
        C.due("quota(2, 2): 3 are used", x.quota(2, 2), -5);
        C.due("quota(2, 4): 1 is left for 2", x.quota(2, 4), -5);
        C.due("quota(2, 3)", x.quota(2, 3), 3);
        C.due("quota(2, -3): 1 takes them again", x.quota(2, -3), 0);
        C.due("quota(1, -5): the root takes them", x.quota(1, -5), 0);
        C.due("cell(0, 2)", x.cell(0, 2), 6);
        C.due("quota(1, 59): the root has 5, uses 1", x.quota(1, 59), 59);
        C.due("quota(1, -56)", x.quota(1, -56), -5);
        C.due("quota(1, 4)", x.quota(1, 4), 63);
        x.segment(1, 1, 24);
        C.due("the root is full", x.segment(0, 9, 1), -5);
        C.due("count(8)", x.count(8), 4);
        C.due("quota(1, -55)", x.quota(1, -55), 8);
        C.due("segment(2, 1, 1): 1 is full", x.segment(2, 1, 1), -5);
        C.due("segment(0, 1, 1)", x.segment(0, 1, 1), 4);
    }

    private static void cell() {
        RingGates x = new RingGates();
        x.directory(0);
        x.directory(1);
        x.segment(0, 0, 9);
        x.segment(1, 0, 1);
        x.segment(1, 1, 1);
        x.segment(2, 0, 17);
        C.due("cell(3, 0)", x.cell(3, 0), -1);
        C.due("cell(-1, 0)", x.cell(-1, 0), -1);
        C.due("cell(0, 5)", x.cell(0, 5), -1);
        C.due("cell(0, -1)", x.cell(0, -1), -1);
        int[][] due = {{-2, 64, 7, 0, 1}, {0, 0, 7, 0, 2}, {1, 0, 7, 0, 1}};
        tellCells(x, due);
        C.due("quota(1, 9)", x.quota(1, 9), 9);
        int[][] then = {{-2, 55, 2, 0, 1}, {0, 9, 5, 1, 2}, {1, 0, 5, 1, 1}};
        tellCells(x, then);
    }

    private static void tellCells(RingGates x, int[][] due) {
        for (int d = 0; d < due.length; d++) {
            for (int what = 0; what < 5; what++) {
                C.due("cell(" + d + ", " + what + ")", x.cell(d, what), due[d][what]);
            }
        }
    }

    private static void of() {
        RingGates x = new RingGates();
        x.directory(0);
        x.segment(1, 6, 10);
        x.brackets(0, 135);
        x.set(0, 0, 3);
        x.set(0, 1, 4);
        int[] due = {1, 6, 10, 1, 3, 5, 3, 4, 1, 2};
        for (int what = 0; what < due.length; what++) {
            C.due("of(0, " + what + ")", x.of(0, what), due[what]);
        }
        C.due("of(0, 10)", x.of(0, 10), -1);
        C.due("of(0, -1)", x.of(0, -1), -1);
        C.due("of(1, 0)", x.of(1, 0), -1);
        C.due("of(-1, 0)", x.of(-1, 0), -1);
        C.due("of(16, 0)", x.of(16, 0), -1);
        int[] records = {1, 1, 1, 2, 2, 3, 3};
        int[] lengths = {1, 7, 8, 9, 16, 17, 24};
        for (int i = 0; i < lengths.length; i++) {
            x.resize(0, lengths[i]);
            C.due("of(0, 9) of length " + lengths[i], x.of(0, 9), records[i]);
        }
    }

    private static void rule() {
        RingGates x = new RingGates();
        x.directory(0);
        C.due("rule(2)", x.rule(2), -1);
        C.due("rule(-2)", x.rule(-2), -1);
        C.due("rule(-1)", x.rule(-1), 0);
        C.due("rule(1)", x.rule(1), 1);
        C.due("rule(1)", x.rule(1), 2);
        C.due("rule(0)", x.rule(0), 3);
        C.due("rule(1)", x.rule(1), 4);
        C.due("rule(1), the fifth", x.rule(1), -3);
        C.due("rule(2), the fifth", x.rule(2), -1);
        C.due("count(2)", x.count(2), 4);
        C.due("rule(-1)", x.rule(-1), 0);
        C.due("count(2)", x.count(2), 0);
        C.due("rule(0)", x.rule(0), 1);
    }

    private static void lookup() {
        RingGates x = new RingGates();
        x.directory(0);
        x.directory(0);
        x.segment(0, 1, 1);
        x.segment(1, 1, 1);
        x.segment(1, 2, 1);
        x.segment(2, 2, 1);
        x.segment(2, 3, 1);
        C.due("lookup(5, 1)", x.lookup(5, 1), -1);
        C.due("lookup(0, 26)", x.lookup(0, 26), -1);
        C.due("lookup(0, -1)", x.lookup(0, -1), -1);
        C.due("lookup(0, 1): itself", x.lookup(0, 1), 0);
        C.due("lookup(0, 2)", x.lookup(0, 2), -2);
        x.rule(2);
        x.rule(1);
        C.due("lookup(0, 1): the own directory first", x.lookup(0, 1), 0);
        C.due("lookup(0, 2): the first of the rules", x.lookup(0, 2), 3);
        C.due("lookup(2, 2): its own", x.lookup(2, 2), 2);
        C.due("lookup(4, 1): the second rule", x.lookup(4, 1), 1);
        C.due("lookup(1, 3)", x.lookup(1, 3), 4);
        C.due("lookup(1, 4)", x.lookup(1, 4), -2);
    }
}
