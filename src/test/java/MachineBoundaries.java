/** The boundaries of promises 22 to 25, of OPERANDS and of each ACT but CALL and BACK. */
final class MachineBoundaries {
    private static final int BAD = Boundaries.BAD, VOID = Boundaries.VOID, MIN = Boundaries.MIN, MAX = Boundaries.MAX;
    private static final int[] THROUGH_OPERANDS = {1, 2, 3, 4, 5};

    private final Boundaries b;

    MachineBoundaries(Boundaries b) {
        this.b = b;
    }

    void all() {
        start();
        startLeaves();
        runLength();
        runEnds();
        why();
        machine();
        stepFaults();
        stepAccess();
        nextWord();
        halt();
        take();
        takeFaults();
        put();
        putFaults();
        add();
        go();
        goFaults();
        test();
        operandWord();
        notGoneThrough();
        goneThroughRead();
        snapped();
        snappedStays();
        rings();
        indirectFaults();
        chain();
    }

    /** Two SEGMENTS of 24 WORDS, with brackets so. */
    private void two(int first, int second) {
        b.given(x -> {
            x.segment(0, 0, 24);
            x.segment(0, 1, 24);
            x.brackets(0, first);
            x.brackets(1, second);
        });
    }

    /** Writes lines into a SEGMENT from WORD 0 on. */
    private void lines(int segment, String lines) {
        b.then(x -> Boundaries.put(x, segment, 0, lines));
    }

    private void starts(int word, int ring) {
        b.then(x -> x.start(0, word, ring));
    }

    private void start() {
        b.promise(22, "THE MACHINE is AT a WORD of a SEGMENT (there or not), in a RING, A 0, all STACKS empty: 1.");
        b.given(x -> { });
        b.dueWithin(0, 15, s -> 1, 0, "start", 0, 23, 7);
        b.dueWithin(0, 23, w -> 1, 1, "start", 15, 0, 0);
        b.dueWithin(0, 7, r -> 1, 2, "start", 15, 23, 0);
        int[][] places = {{0, 0, 0}, {15, 23, 7}, {15, 0, 0}, {0, 23, 7}, {7, 11, 3}};
        for (int[] p : places) {
            b.given(x -> x.start(p[0], p[1], p[2]));
            b.machine(p[0], p[1], p[2], 0);
            b.faults(-20);
        }
        b.given(x -> x.segment(0, 0, 23));
        b.due(1, "start", 0, 23, 4);
        starts(23, 4);
        b.faults(-21);
        b.promise(22, "BAD (0 .. 15, 0 .. 23, 0 .. 7).");
        two(444, 444);
        lines(0, "take 3;call 4 0;none;num 5;ptr 0 1 0");
        starts(0, 4);
        b.then(x -> x.run(2));
        b.keepsBeyond(0, 15, BAD, 0, "start", 0, 0, 0);
        b.keepsBeyond(0, 23, BAD, 1, "start", 0, 0, 0);
        b.keepsBeyond(0, 7, BAD, 2, "start", 0, 0, 0);
        b.machine(1, 0, 4, 5);
    }

    private void startLeaves() {
        b.promise(22, "A 0, all STACKS empty: 1.");
        // A FRAME or two on the STACK of each ring: SEGMENT s goes by a gate to ring s, and calls the next one by ring 7.
        b.given(x -> {
            for (int ring = 0; ring < 8; ring++) {
                x.segment(0, ring, 9);
                x.brackets(ring, 110 * ring + 7);
                x.set(ring, 1, 9);
                Boundaries.put(x, ring, 0, "take 6;call 7 0;call 7 0;none;none;none;num 5");
                x.pointer(ring, 7, ring < 7 ? 1000 * (ring + 1) + 701 : 7708, false);
            }
            Boundaries.put(x, 0, 1, "call 2 0");
            x.start(0, 0, 0);
            x.run(200);
        });
        int[] heights = {1, 1, 1, 1, 1, 1, 1, 2};
        b.dueWithin(10, 17, what -> heights[what - 10], 0, "machine", 0);
        b.due(5, "machine", 3);
        b.then(x -> x.start(3, 2, 1));
        b.dueWithin(10, 17, what -> 0, 0, "machine", 0);
        b.dueWithin(0, 7, ring -> Boundaries.NOT, 0, "frame", 0, 0, 0);
        b.machine(3, 2, 1, 0);
        b.due(0, "dry", 1, 4);
    }

    private void runLength() {
        b.promise(23, "A RUN: its STEPS.");
        b.term(23, "A RUN of n (1 .. 200) STEPS: it ends as the machine HALTS (that STEP counts), at a FAULT"
            + " (that STEP doesn't), behind n.");
        b.given(x -> {
            x.segment(0, 0, 3);
            Boundaries.put(x, 0, 0, "add 2;go 0;num 1");
            x.start(0, 0, 4);
        });
        b.dueWithin(1, 200, n -> n, 0, "run", 0);
        b.dueWithin(1, 200, n -> n, 0, "dry", 0, 0);
        b.dueWithin(1, 200, n -> (n + 1) / 2, 0, "dry", 0, 2);
        b.promise(23, "BAD.");
        b.keepsBeyond(1, 200, BAD, 0, "run", 1);
        b.keeps(BAD, "run", 0);
        b.keeps(BAD, "run", 201);
        b.then(x -> x.run(200));
        b.machine(0, 0, 4, 100);
        b.due(0, "why");
    }

    private void runEnds() {
        b.term(23, "it ends as the machine HALTS (that STEP counts), at a FAULT (that STEP doesn't), behind n.");
        b.given(x -> {
            x.segment(0, 0, 5);
            Boundaries.put(x, 0, 0, "test 1;test 2;test 3;halt");
            x.start(0, 0, 4);
        });
        int[] steps = {1, 2, 3, 4, 4, 4, 4};
        int[] whys = {0, 0, 0, 1, 1, 1, 1};
        for (int n = 1; n <= 7; n++) {
            b.due(steps[n - 1], "dry", n, 0);
            b.due(whys[n - 1], "dry", n, 1);
            b.due(steps[n - 1], "run", n);
        }
        b.due(4, "run", 200);
        b.then(x -> x.number(0, 3, 1));
        int[] faultSteps = {1, 2, 3, 3, 3, 3};
        int[] faultWhys = {0, 0, 0, -24, -24, -24};
        for (int n = 1; n <= 6; n++) {
            b.due(faultSteps[n - 1], "dry", n, 0);
            b.due(faultWhys[n - 1], "dry", n, 1);
            b.due(faultSteps[n - 1], "run", n);
        }
        b.due(3, "run", 200);
        b.then(x -> x.run(3));
        b.machine(0, 3, 4, 0);
        b.due(0, "why");
        b.faults(-24);
        // The first STEP may be the last.
        b.given(x -> {
            x.segment(0, 0, 1);
            x.act(0, 0, 0, 0, 0);
            x.start(0, 0, 4);
        });
        b.runs(200, 1, 1);
        b.runs(1, 1, 1);
    }

    private void why() {
        b.promise(24, "WHY of the latest RUN in deed, by run() (0, if there was none; start(), back() leave it).");
        b.term(24, "WHY: 1 it HALTED, the FAULT, 0 neither.");
        b.given(x -> {
            x.segment(0, 0, 4);
            Boundaries.put(x, 0, 0, "test 1;halt;num 1");
        });
        b.keeps(0, "why");
        b.then(x -> x.image());
        int[] words = {0, 1, 2, 3, 4};
        int[] whys = {0, 1, -24, -23, -21};
        for (int i = 0; i < words.length; i++) {
            int w = words[i];
            b.then(x -> {
                x.start(0, w, 4);
                x.run(1);
            });
            b.keeps(whys[i], "why");
            b.then(x -> x.start(0, 0, 4));
            b.keeps(whys[i], "why");
            b.then(x -> x.back());
            b.keeps(whys[i], "why");
            // No RUN: one that is BAD, one in thought, one that is asked of otherwise.
            b.then(x -> {
                x.run(0);
                x.run(201);
                x.dry(2, 1);
                x.dry(1, 0);
                x.operand(0, 0, 4, 0);
                x.enters(9, 0, 4);
            });
            b.keeps(whys[i], "why");
        }
        b.then(x -> {
            x.start(0, 0, 4);
            x.run(1);
        });
        b.keeps(0, "why");
    }

    private void machine() {
        b.promise(25, "SEGMENT (what 0), WORD (1) AT which it is, RING (2), A (3),"
            + " FRAMES of the STACK of ring what less 10 (10 .. 17).");
        b.term(25, "THE MACHINE is AT a SEGMENT and WORD, in a RING (0 .. 7), has A (an int), and of each RING a STACK of at most"
            + " 6 FRAMES.");
        for (int ring = 0; ring < 8; ring++) {
            int r = ring;
            b.given(x -> {
                x.segment(0, 0, 24);
                x.brackets(0, 111 * r);
                Boundaries.put(x, 0, 0, "call 0 0");
                Boundaries.put(x, 0, 1, "take 2;num -7");
                x.start(0, 0, r);
            });
            for (int frames = 1; frames <= 6; frames++) {
                int n = frames;
                b.then(x -> x.run(1));
                b.dueWithin(10, 17, what -> what == 10 + r ? n : 0, 0, "machine", 0);
            }
            b.faults(-29);
            b.then(x -> {
                x.act(0, 0, 1, 2, 0);
                x.run(1);
            });
            int[] due = {0, 1, r, -7};
            for (int what = 0; what < 4; what++) {
                b.keeps(due[what], "machine", what);
            }
        }
        b.promise(25, "VOID: BAD.");
        int[] bad = {-1, 4, 5, 8, 9, 18, 19, 20, 26, 110, 256, 65536, MIN, MIN + 1, MIN + 10, MAX, MAX - 1, -10, -17};
        for (int what : bad) {
            b.keeps(VOID, "machine", what);
        }
    }

    private void stepFaults() {
        b.term(23, "A STEP: the ACT AT which it is: -20, -21, ACCESS GO by RING (-22), -23, -24.");
        b.term(23, "FAULTS: -20 no such SEGMENT; -21 no such WORD in it; -22 ACCESS; -23 MISSING; -24 of another kind;");
        b.given(x -> {
            x.segment(0, 0, 5);
            Boundaries.put(x, 0, 0, "none;num 0;ptr 4 0 4;ind 4 0 4;link a 4");
            x.start(1, 0, 4);
        });
        b.faults(-20);
        int[] faults = {-23, -24, -24, -24, -24, -21};
        for (int w = 0; w < faults.length; w++) {
            int word = w;
            b.faults("WORD " + w, faults[w], x -> x.start(0, word, 4));
            b.faults("WORD " + w, w == 5 ? -21 : -22, x -> x.start(0, word, 5));
            b.faults("WORD " + w, -20, x -> x.start(15, word, 5));
        }
        b.faults("WORD 23", -21, x -> x.start(0, 23, 4));
        b.faults("a SNAPPED one", -24, x -> {
            Boundaries.put(x, 0, 0, "take 4");
            x.start(0, 0, 4);
            x.run(1);
            x.start(0, 4, 4);
        });
        b.term(23, "Of several at one place that with the greater number (-20 ahead of -21, and so on).");
        b.faults("-21 ahead of -22", -21, x -> x.start(0, 5, 7));
        b.faults("-22 ahead of -23", -22, x -> x.start(0, 0, 7));
        b.faults("-22 ahead of -24", -22, x -> x.start(0, 1, 3));
    }

    private void stepAccess() {
        b.term(23, "GO: MAY has it, e is R1 at least, R2 at most.");
        int[] rrrs = {444, 7, 77, 257, 255, 0, 777, 346};
        for (int rrr : rrrs) {
            for (int ring = 0; ring < 8; ring++) {
                int r = ring;
                b.given(x -> {
                    x.segment(0, 0, 1);
                    x.brackets(0, rrr);
                    x.act(0, 0, 9, 0, 0);
                    x.start(0, 0, r);
                });
                boolean goes = ring >= rrr / 100 && ring <= rrr / 10 % 10;
                b.due(goes ? 1 : 0, "run", 1);
                b.due(goes ? 0 : -22, "dry", 1, 1);
                b.then(x -> x.set(0, 0, 4));
                b.due(goes ? 1 : 0, "run", 1);
                b.then(x -> x.set(0, 0, 3));
                b.due(0, "run", 1);
                b.due(-22, "dry", 1, 1);
            }
        }
    }

    private void nextWord() {
        b.term(25, "AT becomes the next WORD, then by what:");
        b.given(x -> {
            x.segment(0, 0, 24);
            for (int w = 0; w < 24; w++) {
                x.act(0, w, 1, 23, 0);
            }
            x.number(0, 23, 6);
            x.start(0, 0, 4);
        });
        b.runs(200, 23, -24);
        b.machine(0, 23, 4, 6);
        // Behind the last WORD of all there is none: AT is 24 then.
        b.then(x -> {
            x.act(0, 23, 9, 0, 0);
            x.run(1);
        });
        b.machine(0, 24, 4, 6);
        b.faults(-21);
        b.then(x -> {
            x.image();
            x.start(0, 0, 0);
            x.back();
        });
        b.machine(0, 24, 4, 6);
        b.faults(-21);
        b.given(x -> {
            x.segment(0, 0, 1);
            Boundaries.put(x, 0, 0, "test 0");
            x.start(0, 0, 4);
        });
        b.runs(200, 200, 0);
        b.machine(0, 0, 4, 0);
    }

    private void halt() {
        b.term(23, "0 halt: it HALTS (AT is that ACT again).");
        for (int w = 0; w < 24; w += 23) {
            int word = w;
            b.given(x -> {
                x.segment(0, 0, 24);
                x.act(0, word, 0, 23, 3);
                x.start(0, word, 4);
            });
            b.runs(1, 1, 1);
            b.machine(0, word, 4, 0);
            b.runs(200, 1, 1);
            b.machine(0, word, 4, 0);
            b.due(0, "dry", 200, 4);
        }
    }

    private void take() {
        b.term(23, "1 take: A becomes the NUMBER at the OPERAND of w:");
        int[] values = {0, 1, -1, MIN, MAX};
        for (int v : values) {
            two(444, 444);
            lines(0, "take 3;take 4;halt;num 5;ptr 4 1 23");
            b.then(x -> x.number(1, 23, v));
            starts(0, 4);
            b.then(x -> x.run(1));
            b.machine(0, 1, 4, 5);
            b.then(x -> x.run(1));
            b.machine(0, 2, 4, v);
            b.word(1, 23, 1, v, 0);
        }
    }

    /** Where an ACT's OPERAND leads, by a POINTER in WORD 1 of SEGMENT 0, and the FAULT there. */
    private void operandFaults(String[] targets, int[] faults) {
        for (int i = 0; i < targets.length; i++) {
            String target = targets[i];
            b.faults(target, faults[i], x -> Boundaries.put(x, 0, 1, target));
        }
    }

    private void takeFaults() {
        b.term(23, "-20, -21, ACCESS READ by e (-22), -23, -24.");
        String[] targets = {"ptr 0 2 0", "ptr 7 15 23", "ptr 0 1 20", "ptr 7 1 23", "ptr 5 1 0", "ptr 5 1 1", "ptr 7 1 5",
            "ptr 4 1 0", "ptr 4 1 1", "ptr 4 1 2", "ptr 4 1 3", "ptr 4 1 4", "halt"};
        int[] faults = {-20, -20, -21, -21, -22, -22, -22, -23, -24, -24, -24, -24, -24};
        int[] reading = {1, 3};
        for (int what : reading) {
            two(44, 344);
            b.then(x -> {
                x.resize(1, 20);
                Boundaries.put(x, 1, 0, "none;ptr 0 1 5;ind 0 1 5;link b 5;take 5;num 8");
                x.number(0, 1, 3);
                x.act(0, 0, what, 1, 0);
                x.start(0, 0, 2);
            });
            b.due(1, "run", 1);
            operandFaults(targets, faults);
            // READ by R2 at most, and only if MAY has it.
            b.then(x -> x.pointer(0, 1, 1405, false));
            b.due(1, "run", 1);
            b.faults("MAY has no READ", -22, x -> x.set(1, 0, 6));
            b.faults("R2 is 3", -22, x -> x.brackets(1, 333));
            b.then(x -> x.set(1, 0, 1));
            b.due(1, "run", 1);
            // The OPERAND may be in the ACT's own SEGMENT, without any POINTER.
            b.then(x -> x.number(0, 1, 3));
            b.faults("its own has no READ", -22, x -> x.set(0, 0, 6));
            b.faults("MISSING", -23, x -> {
                x.resize(0, 1);
                x.resize(0, 24);
            });
            b.faults("no such WORD", -21, x -> x.resize(0, 1));
        }
    }

    private void put() {
        b.term(23, "2 put: the OPERAND of w becomes the NUMBER A, whatever was there:");
        String[] there = {"none", "num 7", "ptr 1 2 3", "ind 1 2 3", "link z 5", "halt", "take 5"};
        for (String line : there) {
            two(444, 444);
            lines(0, "take 2;put 3;num -5;ptr 4 1 23");
            b.then(x -> Boundaries.put(x, 1, 23, line));
            starts(0, 4);
            b.then(x -> x.run(2));
            b.machine(0, 2, 4, -5);
            b.word(1, 23, 1, -5, 0);
            b.word(0, 3, 2, 1423, 0);
        }
        // A SNAPPED one, too; and in its own SEGMENT a WORD that is none of those that are gone through.
        two(444, 444);
        lines(0, "take 5;put 6;put 7;put 8;halt;link b 0;ptr 4 0 5;none;halt");
        b.then(x -> x.number(1, 0, MIN));
        starts(0, 4);
        b.then(x -> x.run(1));
        b.word(0, 5, 5, 1400, 100);
        b.then(x -> x.run(4));
        b.due(1, "why");
        b.word(0, 5, 1, MIN, 0);
        b.word(0, 7, 1, MIN, 0);
        b.word(0, 8, 1, MIN, 0);
        b.due(0, "count", 7);
    }

    private void putFaults() {
        b.term(23, "-20, -21, ACCESS WRITE by e (-22).");
        two(44, 244);
        b.then(x -> {
            x.resize(1, 20);
            Boundaries.put(x, 0, 0, "put 1;ptr 0 1 0;put 2");
            x.start(0, 0, 1);
        });
        b.due(1, "run", 1);
        String[] targets = {"ptr 0 2 0", "ptr 7 15 0", "ptr 0 1 20", "ptr 7 1 20", "ptr 3 1 0", "ptr 7 1 19"};
        int[] faults = {-20, -20, -21, -21, -22, -22};
        operandFaults(targets, faults);
        // WRITE by R1 at most, and only if MAY has it.
        b.term(23, "WRITE: MAY has it, e is R1 at most.");
        b.then(x -> x.pointer(0, 1, 1200, false));
        b.due(1, "run", 1);
        b.faults("MAY has no WRITE", -22, x -> x.set(1, 0, 5));
        b.faults("R1 is 1", -22, x -> x.brackets(1, 144));
        b.then(x -> x.set(1, 0, 2));
        b.due(1, "run", 1);
        // Its own SEGMENT, whose R1 is 0.
        b.faults("R1 is 0", -22, x -> x.start(0, 2, 1));
        starts(2, 0);
        b.due(1, "run", 1);
    }

    private void add() {
        b.term(23, "3 add: as take, but A is more by it (wrapping).");
        int[] first = {0, 5, MAX, MAX, MIN, MIN, -1, MIN, 2000000000};
        int[] more = {0, -7, 1, MAX, -1, MIN, 1, MAX, 2000000000};
        int[] sums = {0, -2, MIN, -2, MAX, 0, 0, -1, -294967296};
        for (int i = 0; i < first.length; i++) {
            int a = first[i];
            int n = more[i];
            two(444, 444);
            lines(0, "take 4;add 5;halt");
            b.then(x -> {
                x.number(0, 4, a);
                x.pointer(0, 5, 1423, false);
                x.number(1, 23, n);
            });
            starts(0, 4);
            b.runs(200, 3, 1);
            b.machine(0, 2, 4, sums[i]);
        }
    }

    private void go() {
        b.term(23, "4 go: AT becomes the OPERAND of w, RING its e: -20, -21, ACCESS GO by e (-22).");
        two(47, 267);
        lines(0, "go 1");
        for (int ring = 0; ring < 8; ring++) {
            int r = ring;
            b.then(x -> {
                x.pointer(0, 1, 1023 + 100 * r, false);
                x.start(0, 0, 1);
            });
            if (r >= 2 && r <= 6) {
                b.then(x -> x.run(1));
                b.machine(1, 23, r, 0);
                b.dueWithin(10, 17, what -> 0, 0, "machine", 0);
            } else {
                b.faults(-22);
            }
        }
        // Its own SEGMENT: a WORD that is none of those that are gone through, MISSING or not.
        two(47, 444);
        lines(0, "go 0;go 5;go 6;go 23;none;none;num 1");
        for (int w = 0; w < 4; w++) {
            int word = w;
            b.then(x -> x.start(0, word, 3));
            b.due(1, "run", 1);
            b.then(x -> x.run(1));
            int[] to = {0, 5, 6, 23};
            b.machine(0, to[w], 3, 0);
        }
    }

    private void goFaults() {
        b.term(23, "4 go: AT becomes the OPERAND of w, RING its e: -20, -21, ACCESS GO by e (-22).");
        two(47, 244);
        b.then(x -> {
            x.resize(1, 20);
            Boundaries.put(x, 0, 0, "go 1;ptr 2 1 19");
            x.start(0, 0, 0);
        });
        b.due(1, "run", 1);
        String[] targets = {"ptr 0 2 0", "ptr 7 15 23", "ptr 2 1 20", "ptr 7 1 20", "ptr 1 1 0", "ptr 5 1 0", "ptr 7 1 19"};
        int[] faults = {-20, -20, -21, -21, -22, -22, -22};
        operandFaults(targets, faults);
        b.faults("MAY has no GO", -22, x -> x.set(1, 0, 3));
        b.faults("R1 is 3", -22, x -> x.brackets(1, 344));
        b.faults("R2 is 1", -22, x -> x.brackets(1, 117));
        b.then(x -> x.set(1, 0, 4));
        b.due(1, "run", 1);
    }

    private void test() {
        b.term(23, "9 test: if A is 0, AT becomes WORD w of the same SEGMENT.");
        int[] values = {0, 1, -1, MIN, MAX, 256, 65536};
        for (int v : values) {
            two(444, 444);
            lines(0, "take 2;test 23");
            b.then(x -> x.number(0, 2, v));
            starts(0, 4);
            b.then(x -> x.run(2));
            b.machine(0, v == 0 ? 23 : 2, 4, v);
        }
        // It asks nothing of that WORD: a POINTER is not gone through, and one that is not there is met by the next STEP.
        b.given(x -> {
            x.segment(0, 0, 2);
            Boundaries.put(x, 0, 0, "test 1;ptr 7 9 9");
            x.start(0, 0, 4);
        });
        b.runs(1, 1, 0);
        b.machine(0, 1, 4, 0);
        b.faults(-24);
        b.given(x -> {
            x.segment(0, 0, 2);
            Boundaries.put(x, 0, 0, "test 2");
            x.start(0, 0, 4);
        });
        b.runs(200, 1, -21);
        b.machine(0, 2, 4, 0);
        b.given(x -> {
            x.segment(0, 0, 2);
            Boundaries.put(x, 0, 0, "test 23");
            x.start(0, 0, 4);
        });
        b.runs(200, 1, -21);
        b.machine(0, 23, 4, 0);
    }

    private void operandWord() {
        b.term(23, "OPERAND of w: it begins with WORD w of the SEGMENT AT which it is (-21: no such WORD), e being RING.");
        for (int what : THROUGH_OPERANDS) {
            b.given(x -> {
                x.segment(0, 0, 24);
                x.number(0, 23, 1);
                x.act(0, 0, what, 23, 0);
                x.start(0, 0, 4);
            });
            b.due(1, "run", 1);
            b.faults("what " + what + ", w 23 of 23", -21, x -> x.resize(0, 23));
            b.faults("what " + what + ", w 1 of 1", -21, x -> {
                x.act(0, 0, what, 1, 0);
                x.resize(0, 1);
            });
        }
    }

    private void notGoneThrough() {
        b.term(28, "What is there: a POINTER, an INDIRECT, a SNAPPED, a LINK: it is gone through; else (MISSING, too) the OPERAND"
            + " is that place, with e.");
        two(444, 444);
        lines(0, "none;num 7;halt;put 3;ptr 5 9 8;ind 4 1 0;link b 6;link a 7");
        b.then(x -> Boundaries.put(x, 1, 0, "ptr 6 8 7"));
        b.then(x -> {
            x.act(0, 9, 1, 7, 0);
            x.start(0, 9, 4);
            x.run(1);
        });
        b.due(5, "word", 0, 7, 0);
        int[][] due = {{4, 0, 0}, {4, 0, 1}, {4, 0, 2}, {4, 0, 3}, {5, 9, 8}, {6, 8, 7}, {4, 1, 6}, {4, 0, 7}};
        for (int w = 0; w < due.length; w++) {
            for (int what = 0; what < 3; what++) {
                b.keeps(due[w][what], "operand", 0, w, 4, what);
            }
        }
        // It needs no READ, and by whatever ring, R1 is no matter.
        b.then(x -> {
            x.brackets(0, 333);
            x.set(0, 0, 0);
        });
        for (int w = 0; w < 4; w++) {
            b.keeps(7, "operand", 0, w, 7, 0);
            b.keeps(0, "operand", 0, w, 0, 0);
        }
    }

    private void goneThroughRead() {
        b.term(28, "GONE THROUGH: ACCESS READ by e (-22);");
        b.term(28, "ACCESS by a ring e: READ: MAY has it, e is R2 at most.");
        two(247, 444);
        lines(0, "ptr 0 9 8;ind 0 1 0;link b 6;link b 7");
        b.then(x -> {
            x.pointer(1, 0, 9008, false);
            x.brackets(1, 77);
            Boundaries.put(x, 0, 9, "take 3");
            x.start(0, 9, 4);
            x.run(1);
        });
        for (int w = 0; w < 4; w++) {
            for (int ring = 0; ring < 8; ring++) {
                b.keeps(ring <= 4 ? Math.max(2, w == 3 ? 4 : ring) : -22, "operand", 0, w, ring, 0);
            }
            int word = w;
            b.then(x -> x.set(0, 0, 6));
            b.keeps(-22, "operand", 0, word, 2, 0);
            b.then(x -> x.set(0, 0, 1));
            b.keeps(w == 3 ? 4 : 3, "operand", 0, word, 3, 0);
            b.then(x -> x.set(0, 0, 7));
        }
    }

    private void snapped() {
        b.term(23, "a LINK is SNAPPED: LOOKUP from the SEGMENT that holds it (-26: none); it becomes a POINTER with RING e,"
            + " that SEGMENT, its WORD, SNAPPED, whether or not it could be written.");
        // A LINK in a segment of DIRECTORY 1 is looked up from there, wherever the ACT is.
        b.given(x -> {
            x.directory(0);
            x.directory(0);
            x.segment(0, 0, 8);
            x.segment(1, 1, 8);
            x.segment(1, 2, 8);
            x.segment(0, 2, 8);
            x.segment(2, 3, 8);
            x.brackets(0, 255);
            x.brackets(1, 355);
            x.brackets(2, 55);
            Boundaries.put(x, 0, 0, "take 4;halt;none;none;ind 0 1 5;link c 7");
            Boundaries.put(x, 1, 5, "link c 7");
            x.number(2, 7, 22);
            x.number(3, 7, 33);
            x.start(0, 0, 4);
        });
        b.due(2, "operand", 0, 4, 4, 1);
        b.due(3, "operand", 0, 5, 4, 1);
        b.runs(1, 1, 0);
        b.machine(0, 1, 4, 22);
        b.word(1, 5, 5, 2407, 207);
        b.word(0, 5, 4, 207, 0);
        b.term(23, "-26 LINK;");
        b.then(x -> {
            Boundaries.put(x, 0, 0, "take 5;none;none;none;none;link d 7");
            x.start(0, 0, 4);
        });
        b.faults(-26);
        b.due(-26, "operand", 0, 5, 4, 0);
        b.faults("RULES without one", -26, x -> x.rule(1));
        b.then(x -> x.rule(2));
        b.due(4, "operand", 0, 5, 4, 1);
        b.runs(1, 0, -23);
        b.word(0, 5, 5, 4407, 307);
        // -22 is ahead of -26.
        b.then(x -> {
            x.link(0, 5, 25, 0);
            x.set(0, 0, 6);
        });
        b.faults(-22);
        // The RING of the SNAPPED one is e as it is then: R1 of the SEGMENT that holds it, 5 here, raises e only behind that.
        for (int ring = 0; ring <= 5; ring++) {
            int r = ring;
            b.given(x -> {
                x.segment(0, 0, 3);
                x.segment(0, 1, 3);
                x.brackets(0, 77);
                x.brackets(1, 577);
                Boundaries.put(x, 0, 0, "take 1;ind 2 1 0");
                Boundaries.put(x, 1, 0, "link b 2;none;num 6");
                x.start(0, 0, r);
            });
            b.runs(1, 1, 0);
            b.word(1, 0, 5, 1002 + 100 * Math.max(2, r), 102);
            b.keeps(Math.max(5, r), "operand", 0, 1, r, 0);
            b.then(x -> {
                x.unsnap(1);
                x.pointer(0, 1, 1000, true);
                x.start(0, 0, r);
            });
            b.runs(1, 1, 0);
            b.word(1, 0, 5, 1002 + 100 * r, 102);
        }
        for (int ring = 2; ring <= 5; ring++) {
            int r = ring;
            b.given(x -> {
                x.segment(0, 0, 3);
                x.brackets(0, 255);
                x.set(0, 0, 5);
                Boundaries.put(x, 0, 0, "take 1;link a 2;num 1");
                x.start(0, 0, r);
            });
            b.runs(1, 1, 0);
            b.word(0, 1, 5, 100 * r + 2, 2);
        }
    }

    private void snappedStays() {
        b.term(23, "A FAULT: nothing is as the ACT did it, but LINKS that were SNAPPED stay so; AT is that ACT.");
        for (int what : THROUGH_OPERANDS) {
            for (int target = 0; target < 3; target++) {
                // The LINK leads to what is there, to a WORD that is not there, or to what has no ACCESS.
                int t = target;
                two(444, 444);
                b.then(x -> {
                    x.resize(1, 8);
                    x.number(1, 3, 7);
                    x.act(0, 0, what, 1, 0);
                    x.link(0, 1, 1, t == 1 ? 8 : 3);
                    x.set(1, 0, t == 2 ? 0 : 7);
                    x.start(0, 0, 4);
                });
                b.runs(1, t == 0 ? 1 : 0, t == 0 ? 0 : t == 1 ? -21 : -22);
                b.word(0, 1, 5, t == 1 ? 1408 : 1403, t == 1 ? 108 : 103);
                if (t > 0) {
                    b.machine(0, 0, 4, 0);
                    b.dueWithin(10, 17, w -> 0, 0, "machine", 0);
                    b.faults(t == 1 ? -21 : -22);
                }
            }
        }
        // A LINK behind an INDIRECT one as well; and it is a POINTER from then on, whatever a LOOKUP tells.
        two(444, 444);
        lines(0, "take 1;ind 4 1 2");
        b.then(x -> x.link(1, 2, 0, 5));
        starts(0, 4);
        b.runs(1, 0, -23);
        b.word(1, 2, 5, 405, 5);
        b.word(0, 1, 3, 1402, 0);
        b.then(x -> {
            x.rename(0, 20);
            x.number(0, 5, 8);
        });
        b.runs(1, 1, 0);
        b.machine(0, 1, 4, 8);
        b.word(1, 2, 5, 405, 5);
    }

    private void rings() {
        b.term(28, "e becomes the greatest of e, the POINTER's RING, R1 of the SEGMENT that holds it; the place becomes its"
            + " SEGMENT and WORD.");
        for (int r1 = 0; r1 < 8; r1++) {
            for (int of = 0; of < 8; of++) {
                int least = r1;
                int ring = of;
                b.given(x -> {
                    x.segment(0, 0, 2);
                    x.brackets(0, 100 * least + 77);
                    x.pointer(0, 1, 15023 + 100 * ring, false);
                });
                b.dueWithin(0, 7, e -> Math.max(e, Math.max(ring, least)), 2, "operand", 0, 1, 0, 0);
                b.due(15, "operand", 0, 1, 0, 1);
                b.due(23, "operand", 0, 1, 0, 2);
            }
        }
        // By a chain: each POINTER's ring, each holder's R1, one after the other.
        b.given(x -> {
            for (int s = 0; s < 4; s++) {
                x.segment(0, s, 2);
                x.brackets(s, 77);
            }
            x.pointer(0, 0, 1000, true);
            x.pointer(1, 0, 2000, true);
            x.pointer(2, 0, 3001, false);
        });
        b.dueWithin(0, 7, e -> e, 2, "operand", 0, 0, 0, 0);
        b.then(x -> x.brackets(2, 377));
        b.dueWithin(0, 7, e -> Math.max(3, e), 2, "operand", 0, 0, 0, 0);
        b.then(x -> x.pointer(1, 0, 2500, true));
        b.dueWithin(0, 7, e -> Math.max(5, e), 2, "operand", 0, 0, 0, 0);
        // By the ring so far the next one is read: R2 of it must bear that.
        b.then(x -> x.brackets(2, 357));
        b.dueWithin(0, 7, e -> e <= 5 ? 5 : -22, 2, "operand", 0, 0, 0, 0);
        b.then(x -> x.brackets(2, 347));
        b.dueWithin(0, 7, e -> -22, 2, "operand", 0, 0, 0, 0);
        b.then(x -> {
            x.brackets(2, 377);
            x.brackets(1, 666);
        });
        b.dueWithin(0, 7, e -> e <= 6 ? 6 : -22, 2, "operand", 0, 0, 0, 0);
        b.then(x -> x.pointer(0, 0, 1700, true));
        b.dueWithin(0, 7, e -> -22, 2, "operand", 0, 0, 0, 0);
        // R1 of where it leads is no matter, nor whether the last place is there.
        b.term(28, "Else that is the OPERAND, with e (whether or not it is there).");
        b.then(x -> {
            x.pointer(0, 0, 1000, true);
            x.brackets(1, 77);
            x.pointer(1, 0, 2000, true);
            x.brackets(2, 77);
            x.brackets(3, 777);
        });
        b.keeps(0, "operand", 0, 0, 0, 0);
        b.then(x -> x.set(3, 0, 0));
        b.keeps(3, "operand", 0, 0, 0, 1);
        b.then(x -> x.resize(3, 1));
        b.keeps(1, "operand", 0, 0, 0, 2);
        b.then(x -> x.drop(3));
        b.keeps(3, "operand", 0, 0, 0, 1);
        b.keeps(1, "operand", 0, 0, 0, 2);
    }

    private void indirectFaults() {
        b.term(28, "If it is INDIRECT, what is there is looked at (-20, -21) and gone through likewise (-22 ahead of -23 MISSING,"
            + " -24 a NUMBER, an ACT);");
        two(47, 247);
        b.then(x -> {
            x.resize(1, 20);
            Boundaries.put(x, 1, 0, "none;num 1;halt;take 5;ptr 0 9 9;link z 0;link b 9;num 0");
        });
        String[] firsts = {"ind 0 2 0", "ind 7 15 23", "ind 0 1 20", "ind 7 1 23", "ind 5 1 0", "ind 5 1 1", "ind 5 1 2",
            "ind 5 1 4", "ind 5 1 5", "ind 4 1 0", "ind 0 1 1", "ind 0 1 2", "ind 0 1 3", "ind 0 1 5", "ind 4 1 4"};
        int[] due = {-20, -20, -21, -21, -22, -22, -22, -22, -22, -23, -24, -24, -24, -26, 4};
        for (int i = 0; i < firsts.length; i++) {
            String first = firsts[i];
            b.then(x -> Boundaries.put(x, 0, 1, first));
            for (int what = 0; what < 3; what++) {
                int[] told = {4, 9, 9};
                b.keeps(due[i] < 0 ? due[i] : told[what], "operand", 0, 1, 4, what);
            }
        }
        // The same by each ACT that has an OPERAND; ring 4 may go where the ACT is.
        for (int what : THROUGH_OPERANDS) {
            b.then(x -> {
                x.act(0, 0, what, 1, 0);
                x.start(0, 0, 4);
            });
            for (int i = 0; i < firsts.length - 1; i++) {
                String first = firsts[i];
                b.faults("what " + what + ", " + first, due[i], x -> Boundaries.put(x, 0, 1, first));
            }
        }
        b.then(x -> x.set(1, 0, 6));
        for (int w = 0; w < 8; w++) {
            int word = w;
            b.then(x -> x.pointer(0, 1, 1000 + word, true));
            b.keeps(-22, "operand", 0, 1, 0, 0);
        }
    }

    private void chain() {
        b.term(28, "the seventh that would be gone through is a CHAIN (-25, ahead of all else of it).");
        b.term(23, "-25 CHAIN;");
        b.given(x -> {
            x.segment(0, 0, 24);
            x.segment(0, 1, 4);
            x.brackets(1, 333);
            for (int w = 1; w <= 7; w++) {
                x.pointer(0, w, w + 1, true);
            }
            x.act(0, 0, 1, 1, 0);
            x.start(0, 0, 4);
        });
        // Six are gone through if the sixth, WORD 6, is no INDIRECT one.
        for (int gone = 1; gone <= 7; gone++) {
            int last = gone;
            b.then(x -> {
                for (int w = 1; w <= 7; w++) {
                    x.pointer(0, w, w < last ? w + 1 : 15023, w < last);
                }
            });
            for (int from = 1; from <= last; from++) {
                b.keeps(last - from < 6 ? 15 : -25, "operand", 0, from, 4, 1);
            }
        }
        b.faults(-25);
        String[] seventh = {"ind 4 0 8", "ptr 4 0 8", "none", "num 1", "halt", "link z 1", "link a 1"};
        for (String line : seventh) {
            b.then(x -> {
                x.resize(0, 7);
                x.resize(0, 24);
                Boundaries.put(x, 0, 7, line);
            });
            b.keeps(-25, "operand", 0, 1, 4, 0);
            b.faults(-25);
        }
        // No such SEGMENT, no such WORD, no ACCESS, for the seventh; as the sixth each is what it is.
        String[] sixth = {"ind 4 9 0", "ind 4 0 23", "ind 4 1 3", "ind 4 1 4"};
        int[] faults = {-20, -21, -22, -21};
        for (int i = 0; i < sixth.length; i++) {
            String line = sixth[i];
            b.then(x -> {
                x.resize(0, 23);
                Boundaries.put(x, 0, 6, line);
            });
            b.keeps(-25, "operand", 0, 1, 4, 0);
            b.keeps(faults[i], "operand", 0, 2, 4, 0);
            b.faults(-25);
        }
        // The sixth may be a LINK, or a SNAPPED one.
        b.then(x -> Boundaries.put(x, 0, 6, "link b 3"));
        b.keeps(1, "operand", 0, 1, 4, 1);
        b.runs(1, 0, -22);
        b.word(0, 6, 5, 1403, 103);
        b.keeps(3, "operand", 0, 1, 4, 2);
        // One that leads to itself, and two to one another; a fault ahead of the seventh is told.
        b.then(x -> Boundaries.put(x, 0, 1, "ind 4 0 1;ind 4 0 3;ind 4 0 2"));
        for (int w = 1; w <= 3; w++) {
            b.keeps(-25, "operand", 0, w, 4, 0);
            b.keeps(-22, "operand", 0, w, 5, 0);
        }
        b.faults(-25);
        b.then(x -> x.set(0, 0, 6));
        b.keeps(-22, "operand", 0, 1, 4, 0);
    }
}
