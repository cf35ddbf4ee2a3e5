/** Promises 22 to 26: the machine, its acts, and every fault by its name. */
public final class MachineTest {
    private static final Checks C = new Checks("MachineTest");

    public static void main(String[] args) {
        start();
        run();
        machineAndFrame();
        stepFaults();
        takeAddPut();
        takeFaults();
        putFaults();
        go();
        test();
        operandFaults();
        snapping();
        snapOutlivesFault();
        everyActSnaps();
        stacksOfRings();
        inwardAndOutwardAtOnce();
        callInward();
        callSameRing();
        callFaults();
        callOutward();
        outwardOrderOfFaults();
        inwardArgumentsAreNotCopied();
        argumentsInward();
        argumentFaults();
        putBackFaults();
        fullStack();
        pointersRaiseRings();
        C.end();
    }

    private static RingGates two(int first, int second) {
        RingGates x = new RingGates();
        x.segment(0, 0, 24);
        x.segment(0, 1, 24);
        x.brackets(0, first);
        x.brackets(1, second);
        return x;
    }

    private static void start() {
        RingGates x = new RingGates();
        C.due("start(-1, 0, 0)", x.start(-1, 0, 0), -1);
        C.due("start(16, 0, 0)", x.start(16, 0, 0), -1);
        C.due("start(0, -1, 0)", x.start(0, -1, 0), -1);
        C.due("start(0, 24, 0)", x.start(0, 24, 0), -1);
        C.due("start(0, 0, -1)", x.start(0, 0, -1), -1);
        C.due("start(0, 0, 8)", x.start(0, 0, 8), -1);
        C.machine(x, 0, 0, 4, 0);
        C.due("start(15, 23, 7)", x.start(15, 23, 7), 1);
        C.machine(x, 15, 23, 7, 0);
        x = two(444, 444);
        C.load(x, 0, 0, "take 3;call 4 0;none;num 5;ptr 0 1 0", 5);
        x.start(0, 0, 4);
        C.run(x, 2, 2, 0);
        C.run(x, 1, 0, -23);
        C.due("machine(14)", x.machine(14), 1);
        C.due("machine(3)", x.machine(3), 5);
        C.due("start(0, 1, 3)", x.start(0, 1, 3), 1);
        C.machine(x, 0, 1, 3, 0);
        C.due("machine(14)", x.machine(14), 0);
        C.due("why() stays", x.why(), -23);
    }

    private static void run() {
        RingGates x = two(444, 444);
        C.load(x, 0, 0, "add 3;go 0;halt;num 1", 4);
        x.start(0, 0, 4);
        C.due("run(0)", x.run(0), -1);
        C.due("run(-1)", x.run(-1), -1);
        C.due("run(201)", x.run(201), -1);
        C.due("run(MIN)", x.run(Integer.MIN_VALUE), -1);
        C.run(x, 200, 200, 0);
        C.machine(x, 0, 0, 4, 100);
        C.run(x, 1, 1, 0);
        C.machine(x, 0, 1, 4, 101);
        x.start(0, 2, 4);
        C.run(x, 1, 1, 1);
        C.machine(x, 0, 2, 4, 0);
        C.run(x, 200, 1, 1);
        x.start(0, 3, 4);
        C.run(x, 3, 0, -24);
        C.due("run(0) leaves why", x.run(0), -1);
        C.due("why()", x.why(), -24);
    }

    private static void machineAndFrame() {
        RingGates x = two(444, 444);
        int[] bad = {-1, 4, 5, 9, 18, 100, Integer.MIN_VALUE, Integer.MAX_VALUE};
        for (int what : bad) {
            C.due("machine(" + what + ")", x.machine(what), -2000000000);
        }
        C.load(x, 0, 0, "call 1 2;ptr 0 1 5;num 4;num 6", 4);
        x.start(0, 0, 4);
        C.run(x, 1, 1, 0);
        C.machine(x, 1, 5, 4, 0);
        int[] due = {0, 1, 4, 2, 0};
        for (int what = 0; what < due.length; what++) {
            C.due("frame(4, 0, " + what + ")", x.frame(4, 0, what), due[what]);
        }
        C.due("frame(4, 0, 5)", x.frame(4, 0, 5), -1);
        C.due("frame(4, 0, -1)", x.frame(4, 0, -1), -1);
        C.due("frame(8, 0, 0)", x.frame(8, 0, 0), -1);
        C.due("frame(-1, 0, 0)", x.frame(-1, 0, 0), -1);
        C.due("frame(4, -1, 0)", x.frame(4, -1, 0), -1);
        C.due("frame(4, 1, 0)", x.frame(4, 1, 0), -2);
        C.due("frame(4, 1, 9)", x.frame(4, 1, 9), -1);
        C.due("frame(3, 0, 0)", x.frame(3, 0, 0), -2);
        C.due("frame(7, 5, 0)", x.frame(7, 5, 0), -2);
    }

    private static void stepFaults() {
        RingGates x = new RingGates();
        x.segment(0, 0, 4);
        x.start(1, 0, 4);
        C.run(x, 1, 0, -20);
        x.start(0, 4, 4);
        C.run(x, 1, 0, -21);
        x.start(0, 0, 5);
        C.run(x, 1, 0, -22);
        x.start(0, 0, 3);
        C.run(x, 1, 0, -22);
        x.start(0, 0, 4);
        C.run(x, 1, 0, -23);
        x.number(0, 0, 1);
        C.run(x, 1, 0, -24);
        x.pointer(0, 0, 1, false);
        C.run(x, 1, 0, -24);
        x.act(0, 0, 9, 1, 0);
        x.set(0, 0, 3);
        C.run(x, 1, 0, -22);
        x.set(0, 0, 4);
        C.run(x, 1, 1, 0);
        // Behind the last word there is none.
        x.act(0, 3, 7, 0, 0);
        x.act(0, 2, 9, 3, 0);
        x.start(0, 2, 4);
        C.run(x, 3, 1, -31);
        C.machine(x, 0, 3, 4, 0);
        x.act(0, 3, 9, 23, 0);
        C.run(x, 3, 1, -21);
        C.machine(x, 0, 23, 4, 0);
        x.resize(0, 24);
        x.set(0, 0, 7);
        x.act(0, 23, 1, 0, 0);
        x.number(0, 0, 8);
        C.run(x, 3, 1, -21);
        C.machine(x, 0, 24, 4, 8);
    }

    private static void takeAddPut() {
        RingGates x = two(444, 444);
        C.load(x, 0, 0, "take 5;add 6;put 7;put 8;halt;num 7;ptr 0 1 2;none;halt", 9);
        x.number(1, 2, Integer.MAX_VALUE);
        x.start(0, 0, 4);
        C.run(x, 9, 5, 1);
        int sum = Integer.MIN_VALUE + 6;
        C.machine(x, 0, 4, 4, sum);
        C.word(x, 0, 7, 1, sum, 0);
        C.word(x, 0, 8, 1, sum, 0);
        C.word(x, 1, 2, 1, Integer.MAX_VALUE, 0);
        C.load(x, 0, 8, "ptr 0 1 2", 1);
        C.load(x, 1, 2, "ind 0 0 0", 1);
        x.start(0, 3, 4);
        C.run(x, 1, 1, 0);
        C.word(x, 1, 2, 1, 0, 0);
        C.word(x, 0, 8, 2, 1002, 0);
    }

    private static void takeFaults() {
        RingGates x = two(44, 444);
        C.load(x, 0, 0, "take 1", 1);
        String[] targets = {"ptr 0 2 0", "ptr 0 1 23", "ptr 5 1 0", "ptr 4 1 0", "ptr 4 1 1", "ptr 4 1 2", "ptr 4 1 3",
            "ptr 4 1 4", "halt", "none"};
        int[] faults = {-20, -21, -22, -23, -24, -24, -24, -24, -24, -23};
        x.resize(1, 20);
        C.load(x, 1, 0, "none;ptr 0 0 0;ind 0 0 0;link a 0;halt", 5);
        for (int i = 0; i < targets.length; i++) {
            C.load(x, 0, 1, targets[i], 1);
            x.start(0, 0, 2);
            C.run(x, 1, 0, faults[i]);
            C.machine(x, 0, 0, 2, 0);
        }
        // Without READ it is no matter what is there.
        C.load(x, 0, 1, "none", 1);
        x.set(0, 0, 6);
        C.run(x, 1, 0, -22);
        C.load(x, 0, 0, "add 1;num 3", 2);
        C.run(x, 1, 0, -22);
        x.act(0, 0, 1, 23, 0);
        x.resize(0, 23);
        C.run(x, 1, 0, -21);
        x.act(0, 0, 3, 22, 0);
        x.set(0, 0, 7);
        C.run(x, 1, 0, -23);
    }

    private static void putFaults() {
        RingGates x = two(44, 244);
        C.load(x, 0, 0, "put 1;none;put 5", 3);
        String[] targets = {"ptr 0 2 0", "ptr 0 1 23", "ptr 3 1 0"};
        int[] faults = {-20, -21, -22};
        x.resize(1, 20);
        for (int i = 0; i < targets.length; i++) {
            C.load(x, 0, 1, targets[i], 1);
            x.start(0, 0, 2);
            C.run(x, 1, 0, faults[i]);
        }
        C.load(x, 0, 1, "ptr 2 1 0", 1);
        C.run(x, 1, 1, 0);
        C.word(x, 1, 0, 1, 0, 0);
        x.start(0, 2, 2);
        C.run(x, 1, 0, -22);
        x.start(0, 2, 0);
        C.run(x, 1, 1, 0);
        C.word(x, 0, 5, 1, 0, 0);
        x.set(1, 0, 5);
        x.start(0, 0, 0);
        C.run(x, 1, 0, -22);
        // What is read only through a pointer still has to be read.
        x.set(1, 0, 7);
        x.set(0, 0, 6);
        C.run(x, 1, 0, -22);
    }

    private static void go() {
        RingGates x = two(47, 677);
        C.load(x, 0, 0, "go 1;ptr 6 1 3", 2);
        x.start(0, 0, 2);
        C.run(x, 1, 1, 0);
        C.machine(x, 1, 3, 6, 0);
        C.due("no frame", x.machine(16), 0);
        String[] targets = {"ptr 0 2 0", "ptr 0 1 23", "ptr 5 1 3", "go 1"};
        int[] faults = {-20, -21, -22, 0};
        x.resize(1, 20);
        for (int i = 0; i < targets.length; i++) {
            C.load(x, 0, 1, targets[i], 1);
            x.start(0, 0, 2);
            C.run(x, 1, faults[i] == 0 ? 1 : 0, faults[i]);
            C.machine(x, 0, faults[i] == 0 ? 1 : 0, 2, 0);
        }
        // It goes to a MISSING word, which only the next step meets.
        C.load(x, 0, 0, "go 9", 1);
        x.start(0, 0, 2);
        C.run(x, 2, 1, -23);
        C.machine(x, 0, 9, 2, 0);
        x.act(0, 0, 4, 23, 0);
        x.resize(0, 23);
        x.start(0, 0, 2);
        C.run(x, 2, 0, -21);
    }

    private static void test() {
        RingGates x = two(444, 444);
        C.load(x, 0, 0, "test 2;halt;take 4;test 1;num 3", 5);
        x.start(0, 0, 4);
        C.run(x, 1, 1, 0);
        C.machine(x, 0, 2, 4, 0);
        C.run(x, 2, 2, 0);
        C.machine(x, 0, 4, 4, 3);
        x.pointer(0, 1, 1003, false);
        x.number(0, 4, 0);
        x.start(0, 2, 4);
        C.run(x, 2, 2, 0);
        C.machine(x, 0, 1, 4, 0);
    }

    private static void operandFaults() {
        RingGates x = two(44, 444);
        String[] holders = {"ind 0 9 0", "ind 0 1 20", "ind 5 1 0", "ind 0 1 0", "ind 0 1 1", "ind 0 1 2", "ind 0 1 3",
            "link q 0"};
        int[] faults = {-20, -21, -22, -23, -24, -24, -26, -26};
        x.resize(1, 20);
        C.load(x, 1, 0, "none;num 1;halt;link q 0", 4);
        C.load(x, 0, 0, "take 1", 1);
        for (int i = 0; i < holders.length; i++) {
            C.load(x, 0, 1, holders[i], 1);
            x.start(0, 0, 0);
            C.run(x, 1, 0, faults[i]);
        }
        // READ is asked for before the word there is looked at.
        x.set(1, 0, 6);
        for (int w = 0; w < 4; w++) {
            x.pointer(0, 1, 1000 + w, true);
            C.run(x, 1, 0, -22);
        }
        x.pointer(0, 1, 1020, true);
        C.run(x, 1, 0, -21);
    }

    private static void snapping() {
        RingGates x = new RingGates();
        x.directory(0);
        x.segment(0, 0, 8);
        x.segment(1, 5, 8);
        x.segment(1, 6, 8);
        x.brackets(0, 236);
        x.brackets(1, 355);
        x.brackets(2, 155);
        C.load(x, 0, 0, "take 4;take 5;take 4;halt;link f 1;ind 0 1 4", 6);
        C.load(x, 1, 1, "num 9;none;none;link g 2", 4);
        C.load(x, 2, 2, "num 8", 1);
        x.start(0, 0, 3);
        C.run(x, 1, 0, -26);
        C.word(x, 0, 4, 4, 501, 0);
        x.rule(1);
        // Ring 3 may not write segment 0, and the link is snapped all the same.
        C.run(x, 1, 1, 0);
        C.machine(x, 0, 1, 3, 9);
        C.word(x, 0, 4, 5, 1301, 501);
        C.run(x, 1, 1, 0);
        C.machine(x, 0, 2, 3, 8);
        C.word(x, 1, 4, 5, 2302, 602);
        // It is a pointer now: its ring stays, and no lookup is made.
        x.rule(-1);
        C.run(x, 2, 2, 1);
        C.machine(x, 0, 3, 3, 9);
        C.due("operand(0, 4, 2, 0)", x.operand(0, 4, 2, 0), 3);
        C.due("stale()", x.stale(), 1);
    }

    private static void snapOutlivesFault() {
        RingGates x = two(444, 44);
        C.load(x, 0, 0, "take 8;call 9 2;none;none;none;none;none;none;link b 3;ptr 0 1 0;link b 4;link z 0", 12);
        x.start(0, 0, 4);
        C.run(x, 1, 0, -23);
        C.word(x, 0, 8, 5, 1403, 103);
        C.machine(x, 0, 0, 4, 0);
        x.start(0, 1, 4);
        C.run(x, 1, 0, -26);
        C.word(x, 0, 10, 5, 1404, 104);
        C.word(x, 0, 11, 4, 2500, 0);
        C.machine(x, 0, 1, 4, 0);
        C.due("machine(14)", x.machine(14), 0);
    }

    private static void everyActSnaps() {
        int[] whats = {1, 2, 3, 4, 5};
        for (int what : whats) {
            RingGates x = two(444, 444);
            C.load(x, 0, 1, "link a 3;none;num 5", 3);
            x.act(0, 0, what, 1, 0);
            x.start(0, 0, 4);
            C.run(x, 1, 1, 0);
            C.word(x, 0, 1, 5, 403, 3);
        }
    }

    private static void stacksOfRings() {
        for (int ring = 0; ring < 8; ring++) {
            RingGates x = two(444, 111 * ring);
            x.brackets(0, 111 * ring);
            C.load(x, 0, 0, "call 2 1;halt;ptr 0 1 3;num 6;arg 0;back;call 7 2;ptr 0 0 4", 8);
            C.load(x, 0, 8, "num 8;num 9", 2);
            C.load(x, 1, 3, "arg 0;go 6;ptr 0 0 6", 3);
            x.pointer(1, 6, 6, false);
            x.start(0, 0, ring);
            C.run(x, 4, 4, 0);
            C.due("machine(10 + ring)", x.machine(10 + ring), 2);
            C.due("dry(1, 4)", x.dry(1, 4), 2);
            C.due("dry(2, 4)", x.dry(2, 4), 1);
            C.due("dry(1, 2)", x.dry(1, 2), 8);
            int[][] due = {{0, 1, ring, 1, 0}, {0, 7, ring, 2, 0}};
            for (int k = 0; k < 2; k++) {
                for (int what = 0; what < 5; what++) {
                    C.due("frame(ring, k, what)", x.frame(ring, k, what), due[k][what]);
                }
            }
            C.due("image()", x.image(), 2);
            x.start(0, 0, ring);
            C.due("machine(10 + ring)", x.machine(10 + ring), 0);
            C.due("back()", x.back(), 2);
            C.run(x, 2, 2, 0);
            C.machine(x, 0, 7, ring, 8);
            C.due("machine(10 + ring)", x.machine(10 + ring), 1);
        }
    }

    private static void inwardAndOutwardAtOnce() {
        // Ring 5 calls into 1, which calls out to 6, which calls into 3; then all the ways back.
        RingGates x = two(457, 117);
        x.segment(0, 2, 8);
        x.segment(0, 3, 8);
        x.brackets(2, 667);
        x.brackets(3, 337);
        x.set(1, 1, 1);
        x.set(3, 1, 1);
        C.load(x, 0, 0, "call 2 1;halt;ptr 0 1 0;num 50", 4);
        C.load(x, 1, 0, "call 3 2;arg 0;back;ptr 0 2 0;num 10;num 11", 6);
        C.load(x, 2, 0, "call 4 3;arg 1;set 0;back;ptr 0 3 0;num 60;num 61;num 62", 8);
        C.load(x, 3, 0, "arg 2;back", 2);
        x.start(0, 0, 5);
        C.run(x, 3, 3, 0);
        C.machine(x, 3, 0, 3, 0);
        int[] rings = {1, 6, 3};
        int[][] due = {{0, 1, 5, 1, 0}, {1, 1, 1, 2, 1}, {2, 1, 6, 3, 0}};
        for (int i = 0; i < rings.length; i++) {
            C.due("machine(10 + ring)", x.machine(10 + rings[i]), 1);
            for (int what = 0; what < 5; what++) {
                C.due("frame(" + rings[i] + ", 0, " + what + ")", x.frame(rings[i], 0, what), due[i][what]);
            }
        }
        C.due("dry(200, 2)", x.dry(200, 2), 50);
        C.run(x, 2, 2, 0);
        C.machine(x, 2, 1, 6, 62);
        C.run(x, 3, 3, 0);
        C.machine(x, 1, 1, 1, 11);
        C.word(x, 1, 4, 1, 11, 0);
        C.run(x, 3, 3, 1);
        C.machine(x, 0, 1, 5, 50);
    }

    private static void callInward() {
        RingGates x = two(467, 126);
        x.set(1, 1, 2);
        C.load(x, 0, 0, "call 2 0;halt;ptr 0 1 1", 3);
        C.load(x, 1, 0, "none;back;back", 3);
        x.start(0, 0, 5);
        C.run(x, 1, 1, 0);
        C.machine(x, 1, 1, 2, 0);
        C.due("machine(12)", x.machine(12), 1);
        C.due("frame(2, 0, 2)", x.frame(2, 0, 2), 5);
        C.due("frame(2, 0, 4)", x.frame(2, 0, 4), 0);
        C.run(x, 9, 2, 1);
        C.machine(x, 0, 1, 5, 0);
        C.due("machine(12)", x.machine(12), 0);
        x.pointer(0, 2, 1002, false);
        x.start(0, 0, 5);
        C.run(x, 1, 0, -27);
        x.pointer(0, 2, 1601, false);
        C.run(x, 1, 1, 0);
        C.due("machine(2)", x.machine(2), 2);
        x.start(0, 0, 5);
        x.pointer(0, 2, 1701, false);
        C.run(x, 1, 0, -28);
    }

    private static void callSameRing() {
        RingGates x = two(357, 357);
        C.load(x, 0, 0, "call 2 0;halt;ptr 4 1 9;call 5 0", 4);
        for (int ring = 3; ring <= 5; ring++) {
            int entered = Math.max(ring, 4);
            x.start(0, 0, ring);
            C.run(x, 1, 1, 0);
            C.machine(x, 1, 9, entered, 0);
            C.due("machine(10 + ring)", x.machine(10 + entered), 1);
            C.due("frame(ring, 0, 2)", x.frame(entered, 0, 2), ring);
            C.due("frame(ring, 0, 4)", x.frame(entered, 0, 4), 0);
        }
        // A word of the own segment is called as it is, missing or not.
        x.start(0, 3, 5);
        C.run(x, 1, 1, 0);
        C.machine(x, 0, 5, 5, 0);
    }

    private static void callFaults() {
        RingGates x = two(444, 444);
        x.resize(1, 20);
        C.load(x, 0, 0, "call 1 0", 1);
        String[] targets = {"ptr 0 2 0", "ptr 0 1 20", "ptr 4 1 0", "ptr 5 1 0", "ptr 5 1 0"};
        int[] faults = {-20, -21, -22, -28, -27};
        for (int i = 0; i < targets.length; i++) {
            C.load(x, 0, 1, targets[i], 1);
            x.set(1, 0, i == 2 ? 3 : 7);
            x.brackets(1, i == 4 ? 446 : 444);
            x.start(0, 0, 4);
            C.run(x, 1, 0, faults[i]);
            C.machine(x, 0, 0, 4, 0);
            C.due("machine(14)", x.machine(14), 0);
        }
        // MAY GO alone is asked for: the brackets tell the ring, not the access.
        x.brackets(1, 567);
        x.set(1, 0, 4);
        C.load(x, 0, 1, "ptr 0 1 3", 1);
        C.run(x, 1, 1, 0);
        C.machine(x, 1, 3, 5, 0);
        x.act(0, 0, 5, 23, 0);
        x.resize(0, 23);
        x.start(0, 0, 4);
        C.run(x, 1, 0, -21);
    }

    private static void callOutward() {
        RingGates x = two(127, 567);
        x.segment(0, 2, 4);
        x.brackets(2, 117);
        C.load(x, 0, 0, "call 2 3;halt;ptr 0 1 0;num 10;ptr 0 2 1;num 30", 6);
        C.load(x, 2, 1, "num 20", 1);
        C.load(x, 1, 0, "arg 0;add 20;set 0;arg 1;add 20;set 1;arg 2;set 2;arg 0;back", 10);
        C.load(x, 1, 20, "num 1", 1);
        x.start(0, 0, 1);
        C.run(x, 1, 1, 0);
        C.machine(x, 1, 0, 5, 0);
        C.due("frame(5, 0, 3)", x.frame(5, 0, 3), 3);
        C.due("frame(5, 0, 4)", x.frame(5, 0, 4), 1);
        // What is put at the places meanwhile does not change the copies.
        x.number(0, 3, 99);
        C.run(x, 9, 9, 0);
        C.machine(x, 1, 9, 5, 11);
        C.word(x, 0, 3, 1, 99, 0);
        C.word(x, 2, 1, 1, 20, 0);
        C.run(x, 9, 2, 1);
        C.machine(x, 0, 1, 1, 11);
        C.word(x, 0, 3, 1, 11, 0);
        C.word(x, 2, 1, 1, 21, 0);
        C.word(x, 0, 5, 1, 30, 0);
        // Copies that were not set are not put back.
        C.load(x, 1, 0, "back", 1);
        x.start(0, 0, 1);
        C.run(x, 1, 1, 0);
        x.number(0, 3, 77);
        C.run(x, 1, 1, 0);
        C.word(x, 0, 3, 1, 77, 0);
        C.due("machine(15)", x.machine(15), 0);
    }

    private static void outwardOrderOfFaults() {
        RingGates x = two(127, 567);
        x.resize(0, 6);
        C.load(x, 0, 0, "call 2 3;halt;ptr 0 1 0;num 1;none;halt", 6);
        x.start(0, 0, 1);
        C.run(x, 1, 0, -23);
        x.number(0, 4, 2);
        C.run(x, 1, 0, -24);
        x.number(0, 5, 2);
        x.set(0, 0, 6);
        C.run(x, 1, 0, -22);
        x.set(0, 0, 7);
        C.load(x, 0, 3, "ptr 0 9 0;ptr 0 1 23", 2);
        C.run(x, 1, 0, -20);
        x.number(0, 3, 2);
        x.resize(1, 20);
        C.run(x, 1, 0, -21);
        x.number(0, 4, 2);
        x.resize(0, 5);
        C.run(x, 1, 0, -21);
        C.machine(x, 0, 0, 1, 0);
        C.due("machine(15)", x.machine(15), 0);
        // The OPERANDS of all arguments come ahead of the first one's copy.
        C.load(x, 0, 3, "halt;link z 0", 2);
        C.run(x, 1, 0, -26);
        C.load(x, 0, 3, "ptr 7 0 3;num 1", 2);
        C.run(x, 1, 0, -21);
        x.resize(0, 6);
        C.load(x, 0, 3, "none;link b 20;ind 5 9 0", 3);
        C.run(x, 1, 0, -20);
        C.word(x, 0, 4, 5, 1120, 120);
        // Then the copies, the first first.
        x.number(0, 5, 1);
        C.run(x, 1, 0, -23);
        x.number(0, 3, 1);
        C.run(x, 1, 0, -21);
        x.resize(1, 24);
        C.run(x, 1, 0, -23);
        x.number(1, 20, 1);
        C.run(x, 1, 1, 0);
        C.due("frame(5, 0, 3)", x.frame(5, 0, 3), 3);
    }

    private static void inwardArgumentsAreNotCopied() {
        RingGates x = two(127, 117);
        C.load(x, 0, 0, "call 2 3;halt;ptr 0 1 0;none;ptr 7 9 0;halt", 6);
        x.start(0, 0, 1);
        C.run(x, 1, 1, 0);
        C.due("frame(1, 0, 3)", x.frame(1, 0, 3), 3);
        C.due("frame(1, 0, 4)", x.frame(1, 0, 4), 0);
    }

    private static void argumentsInward() {
        RingGates x = two(467, 117);
        x.segment(0, 2, 4);
        x.brackets(2, 444);
        x.set(1, 1, 1);
        C.load(x, 0, 0, "call 2 3;halt;ptr 0 1 0;num 10;ptr 0 2 1;none", 6);
        C.load(x, 2, 1, "num 20", 1);
        C.load(x, 1, 0, "arg 0;set 1;arg 1;set 2;back", 5);
        x.start(0, 0, 4);
        C.run(x, 3, 3, 0);
        // No copies: what is set is there at once, and what was put there meanwhile is read.
        C.word(x, 2, 1, 1, 10, 0);
        x.number(2, 1, 55);
        C.run(x, 2, 2, 0);
        C.word(x, 0, 5, 1, 55, 0);
        x.number(0, 3, 1);
        C.run(x, 9, 2, 1);
        C.machine(x, 0, 1, 4, 55);
        C.word(x, 0, 3, 1, 1, 0);
        // Ring 1 reads and writes as ring 4 that gave the place: segment 2 is closed to it.
        x.brackets(2, 344);
        x.start(0, 0, 4);
        C.run(x, 9, 2, -22);
        C.machine(x, 1, 1, 1, 1);
        x.brackets(2, 333);
        x.start(0, 0, 4);
        C.run(x, 9, 2, -22);
        x.act(1, 0, 7, 1, 0);
        x.start(0, 0, 4);
        C.run(x, 9, 1, -22);
    }

    private static void argumentFaults() {
        RingGates x = two(467, 117);
        x.set(1, 1, 1);
        C.load(x, 0, 0, "call 2 2;halt;ptr 0 1 0;num 10;none", 5);
        C.load(x, 1, 0, "arg 2", 1);
        x.start(1, 0, 1);
        C.run(x, 1, 0, -31);
        x.act(1, 0, 8, 0, 0);
        C.run(x, 1, 0, -31);
        x.act(1, 0, 6, 0, 0);
        C.run(x, 1, 0, -30);
        int[] whats = {7, 8, 7, 8, 7, 8};
        int[] ws = {2, 2, 23, 23, 1, 1};
        int[] faults = {-31, -31, -31, -31, -23, 0};
        for (int i = 0; i < whats.length; i++) {
            x.act(1, 0, whats[i], ws[i], 0);
            x.start(0, 0, 4);
            C.due("run(2)", x.run(2), faults[i] == 0 ? 2 : 1);
            C.due("why()", x.why(), faults[i]);
        }
        x.act(0, 4, 0, 0, 0);
        x.act(1, 0, 7, 1, 0);
        x.start(0, 0, 4);
        C.run(x, 2, 1, -24);
        x.resize(0, 4);
        C.run(x, 1, 0, -21);
        x.act(1, 0, 8, 1, 0);
        C.run(x, 1, 0, -21);
        x.drop(0);
        C.run(x, 1, 0, -20);
        // The latest frame is the one of the ring in which it is, not the latest of all.
        x = two(457, 447);
        C.load(x, 0, 0, "call 2 1;halt;ptr 0 1 0;num 10", 4);
        C.load(x, 1, 0, "go 1;ptr 5 0 8", 2);
        C.load(x, 0, 8, "arg 0", 1);
        x.start(0, 0, 4);
        C.run(x, 9, 2, -31);
        C.machine(x, 0, 8, 5, 0);
    }

    private static void putBackFaults() {
        RingGates x = two(127, 567);
        C.load(x, 0, 0, "call 2 2;halt;ptr 0 1 0;num 10;ptr 0 2 0", 5);
        C.load(x, 1, 0, "set 0;set 1;back", 3);
        x.segment(0, 2, 4);
        x.brackets(2, 117);
        x.number(2, 0, 20);
        x.start(0, 0, 1);
        C.run(x, 3, 3, 0);
        x.brackets(2, 17);
        C.run(x, 1, 0, -22);
        C.machine(x, 1, 2, 5, 0);
        C.due("frame(5, 0, 3)", x.frame(5, 0, 3), 2);
        C.word(x, 0, 3, 1, 10, 0);
        C.word(x, 2, 0, 1, 20, 0);
        x.drop(2);
        C.run(x, 1, 0, -20);
        C.word(x, 0, 3, 1, 10, 0);
        x.segment(0, 2, 4);
        x.resize(0, 3);
        C.run(x, 1, 0, -21);
        C.word(x, 2, 0, 0, 0, 0);
        x.resize(0, 8);
        C.run(x, 1, 1, 0);
        C.word(x, 0, 3, 1, 0, 0);
        C.word(x, 2, 0, 1, 0, 0);
        C.machine(x, 0, 1, 1, 0);
    }

    private static void fullStack() {
        RingGates x = two(444, 444);
        C.load(x, 0, 0, "call 0 0", 1);
        x.start(0, 0, 4);
        C.run(x, 9, 6, -29);
        C.machine(x, 0, 0, 4, 0);
        C.due("machine(14)", x.machine(14), 6);
        C.due("frame(4, 5, 1)", x.frame(4, 5, 1), 1);
        C.due("frame(4, 6, 1)", x.frame(4, 6, 1), -2);
        // The arguments come ahead of the stack, and what was snapped for them stays.
        C.load(x, 0, 0, "call 0 1;link z 0", 2);
        C.run(x, 1, 0, -26);
        x.link(0, 1, 1, 7);
        C.run(x, 1, 0, -29);
        C.word(x, 0, 1, 5, 1407, 107);
        C.load(x, 0, 0, "back;halt", 2);
        C.run(x, 9, 2, 1);
        C.due("machine(14)", x.machine(14), 5);
    }

    private static void pointersRaiseRings() {
        RingGates x = two(137, 247);
        x.segment(0, 2, 8);
        x.brackets(2, 377);
        // By the pointer's ring, by the brackets of the segments gone through, by the ring itself.
        String[] ways = {"ptr 0 2 0", "ptr 5 2 0", "ind 0 1 0", "ind 1 1 1", "ptr 2 2 0"};
        int[] rings = {1, 5, 2, 6, 2};
        C.load(x, 1, 0, "ptr 1 2 0;ptr 6 2 0", 2);
        for (int i = 0; i < ways.length; i++) {
            C.load(x, 0, 5, ways[i], 1);
            C.due("operand of " + ways[i], x.operand(0, 5, 0, 0), rings[i]);
            C.due("operand of " + ways[i] + " by 3", x.operand(0, 5, 3, 0), Math.max(3, rings[i]));
        }
    }
}
