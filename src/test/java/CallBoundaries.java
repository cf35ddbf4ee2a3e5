/** The boundaries of CALL, BACK and of arguments, as promises 23 to 26 show them. */
final class CallBoundaries {
    private static final int BAD = Boundaries.BAD, NOT = Boundaries.NOT;
    private static final int MIN = Boundaries.MIN, MAX = Boundaries.MAX;

    private final Boundaries b;

    CallBoundaries(Boundaries b) {
        this.b = b;
    }

    void all() {
        frame();
        frameElsewhere();
        frameBad();
        rings();
        gates();
        calledPlace();
        argumentOperands();
        argumentsPlaces();
        outwardCopies();
        outwardCopyFaults();
        stackIsFull();
        callOfItself();
        faultOfCallLeavesAll();
        backNone();
        backInward();
        backOutward();
        backFaults();
        backFaultOfALaterOne();
        argOfNone();
        argOfTheLatest();
        argInward();
        argGreaterRing();
        argFaults();
        setFaults();
    }

    private void two(int first, int second) {
        b.given(x -> {
            x.segment(0, 0, 24);
            x.segment(0, 1, 24);
            x.brackets(0, first);
            x.brackets(1, second);
        });
    }

    private void lines(int segment, String lines) {
        b.then(x -> Boundaries.put(x, segment, 0, lines));
    }

    private void starts(int word, int ring) {
        b.then(x -> x.start(0, word, ring));
    }

    private void steps(int n) {
        b.then(x -> x.run(n));
    }

    private void frame() {
        b.promise(26, "Of FRAME k (0 the first) of a ring's STACK: SEGMENT (what 0), WORD (1), RING (2) to which it goes BACK,"
            + " how many arguments (3), whether it is OUTWARD (4: 1, 0).");
        b.term(26, "Then a FRAME on the new RING's STACK (-29: it has 6): AT (the WORD behind the CALL), RING, the arguments.");
        // Six FRAMES with 0 to 3 arguments, the first by ring 3 OUTWARD, the others in ring 5.
        two(357, 557);
        lines(0, "call 20 3;call 20 2;call 20 1;call 20 0;call 20 2;call 20 3");
        b.then(x -> {
            Boundaries.put(x, 0, 20, "ptr 0 1 0;num 1;num 2;num 3");
            Boundaries.put(x, 1, 0, "go 1;ptr 0 0 1");
            x.start(0, 0, 3);
        });
        int[] arguments = {3, 2, 1, 0, 2, 3};
        for (int k = 0; k < 6; k++) {
            int called = k;
            b.then(x -> {
                x.pointer(1, 1, called + 1, false);
                x.run(1);
            });
            b.due(k + 1, "machine", 15);
            for (int of = 0; of <= k; of++) {
                b.frame(5, of, 0, of + 1, of == 0 ? 3 : 5, arguments[of], of == 0 ? 1 : 0);
            }
            for (int what = 0; what < 5; what++) {
                b.keeps(NOT, "frame", 5, k + 1, what);
            }
            steps(1);
        }
    }

    private void frameElsewhere() {
        b.promise(26, "SEGMENT (what 0), WORD (1), RING (2) to which it goes BACK,");
        // From SEGMENT 15 by 14, 9, 8, 7 and 1 to SEGMENT 0, by a CALL in another WORD of each.
        int[] way = {15, 14, 9, 8, 7, 1, 0};
        int[] at = {22, 0, 3, 11, 20, 1, 5};
        b.given(x -> {
            for (int s = 0; s < 16; s++) {
                x.segment(0, s, 24);
            }
            for (int i = 0; i < 6; i++) {
                x.act(way[i], at[i], 5, 23, 0);
                x.pointer(way[i], 23, 1000 * way[i + 1] + at[i + 1], false);
            }
            x.act(0, 5, 6, 0, 0);
            x.start(15, 22, 4);
        });
        for (int made = 1; made <= 6; made++) {
            b.runs(1, 1, 0);
            b.machine(way[made], at[made], 4, 0);
            for (int k = 0; k < made; k++) {
                b.frame(4, k, way[k], at[k] + 1, 4, 0, 0);
            }
        }
        b.same("back() with six FRAMES", x -> x.image(), x -> {
            x.image();
            x.start(3, 3, 3);
            x.back();
        });
        b.term(23, "The FRAME goes; AT, RING are as it says.");
        for (int k = 5; k >= 0; k--) {
            int from = k;
            b.then(x -> {
                x.act(x.machine(0), x.machine(1), 6, 0, 0);
                x.run(1);
            });
            b.machine(way[from], at[from] + 1, 4, 0);
            b.due(from, "machine", 14);
            b.due(NOT, "frame", 4, from, 0);
        }
        // OUTWARD from SEGMENT 15, and BACK.
        b.given(x -> {
            for (int s = 0; s < 16; s++) {
                x.segment(0, s, 3);
            }
            x.brackets(15, 17);
            x.act(15, 0, 5, 1, 0);
            x.pointer(15, 1, 14002, false);
            x.act(14, 2, 6, 0, 0);
            x.start(15, 0, 1);
        });
        b.runs(1, 1, 0);
        b.machine(14, 2, 4, 0);
        b.frame(4, 0, 15, 1, 1, 0, 1);
        b.runs(1, 1, 0);
        b.machine(15, 1, 1, 0);
    }

    private void frameBad() {
        b.promise(26, "BAD;");
        two(444, 444);
        lines(0, "call 1 2;ptr 0 1 5;num 4;num 6");
        starts(0, 4);
        steps(1);
        b.frame(4, 0, 0, 1, 4, 2, 0);
        b.keepsBeyond(0, 4, BAD, 2, "frame", 4, 0, 0);
        b.keepsBeyond(0, 7, BAD, 0, "frame", 4, 0, 0);
        // BAD is named ahead of NOT.
        b.keepsBeyond(0, 4, BAD, 2, "frame", 4, 1, 0);
        b.keepsBeyond(0, 7, BAD, 0, "frame", 4, 9, 0);
        b.keeps(BAD, "frame", 4, -1, 0);
        b.keeps(BAD, "frame", 4, MIN, 0);
        b.promise(26, "NOT: no such FRAME.");
        int[] none = {1, 2, 5, 6, 7, 256, 65536, MAX};
        for (int k : none) {
            b.keeps(NOT, "frame", 4, k, 0);
            b.keeps(NOT, "frame", 4, k, 4);
        }
        for (int ring = 0; ring < 8; ring++) {
            b.keeps(ring == 4 ? 0 : NOT, "frame", ring, 0, 0);
        }
        b.then(x -> x.start(0, 0, 4));
        b.keeps(NOT, "frame", 4, 0, 0);
        b.given(x -> { });
        for (int ring = 0; ring < 8; ring++) {
            b.keeps(NOT, "frame", ring, 0, 0);
        }
    }

    private void rings() {
        b.term(29, "By its e: below R1: OUTWARD, the new RING is R1; R1 to R2: e; above R2, R3 at most: R2, if its WORD is below"
            + " GATES (-27); above R3: -28.");
        b.term(23, "AT is the OPERAND then, RING the new one.");
        int[] rrrs = {246, 444, 7, 77, 777, 0, 257, 667};
        for (int rrr : rrrs) {
            int r1 = rrr / 100;
            int r2 = rrr / 10 % 10;
            int r3 = rrr % 10;
            for (int ring = 0; ring < 8; ring++) {
                int e = ring;
                int into = e < r1 ? r1 : e <= r2 ? e : e <= r3 ? r2 : -28;
                two(77, rrr);
                b.then(x -> {
                    x.set(1, 1, 24);
                    Boundaries.put(x, 0, 5, "call 6 1;ptr 0 1 23;num 9");
                    x.start(0, 5, e);
                });
                b.keeps(into, "enters", 1, 23, e);
                if (into < 0) {
                    b.faults(into);
                } else {
                    steps(1);
                    b.machine(1, 23, into, 0);
                    b.due(1, "machine", 10 + into);
                    b.frame(into, 0, 0, 6, e, 1, e < r1 ? 1 : 0);
                }
                // Without the gate only those above R2 have a FAULT.
                two(77, rrr);
                b.then(x -> {
                    x.set(1, 1, 23);
                    Boundaries.put(x, 0, 5, "call 6 1;ptr 0 1 23;num 9");
                    x.start(0, 5, e);
                });
                int gateless = e > r2 && e <= r3 ? -27 : into;
                b.keeps(gateless, "enters", 1, 23, e);
                if (gateless < 0) {
                    b.faults(gateless);
                } else {
                    b.runs(1, 1, 0);
                }
            }
        }
    }

    private void gates() {
        b.term(23, "above R2, R3 at most: R2, if its WORD is below GATES (-27);");
        b.term(23, "-27 GATE;");
        b.term(23, "-28 RING;");
        two(77, 126);
        for (int gates = 0; gates <= 24; gates++) {
            int n = gates;
            b.then(x -> x.set(1, 1, n));
            for (int w = 0; w < 24; w++) {
                b.due(w < n ? 2 : -27, "enters", 1, w, 3);
                b.due(w < n ? 2 : -27, "enters", 1, w, 6);
            }
            b.due(-28, "enters", 1, 0, 7);
            b.due(2, "enters", 1, 23, 2);
            b.due(1, "enters", 1, 23, 0);
        }
        int[] gateOf = {0, 1, 5, 23, 24};
        for (int gates : gateOf) {
            b.then(x -> {
                x.set(1, 1, gates);
                x.act(0, 0, 5, 1, 0);
                x.start(0, 0, 6);
            });
            if (gates > 0) {
                b.then(x -> x.pointer(0, 1, 1000 + gates - 1, false));
                b.runs(1, 1, 0);
                b.machine(1, gates - 1, 2, 0);
                b.then(x -> x.start(0, 0, 6));
            }
            if (gates < 24) {
                b.faults("WORD " + gates, -27, x -> x.pointer(0, 1, 1000 + gates, false));
            }
            b.faults("ring 7", -28, x -> x.pointer(0, 1, 1700, false));
        }
    }

    private void calledPlace() {
        b.term(23, "CALL of w with n arguments: the OPERAND of w: -20, -21, MAY GO (-22).");
        b.term(23, "5 call: as below. 6 back.");
        two(77, 246);
        b.then(x -> {
            x.resize(1, 20);
            Boundaries.put(x, 0, 0, "call 1 0;ptr 3 1 19");
            x.start(0, 0, 0);
        });
        b.due(1, "run", 1);
        String[] targets = {"ptr 0 2 0", "ptr 7 15 23", "ptr 0 1 20", "ptr 7 1 20", "ptr 7 1 19", "ptr 5 1 0"};
        int[] faults = {-20, -20, -21, -21, -28, -27};
        for (int i = 0; i < targets.length; i++) {
            String target = targets[i];
            b.faults(target, faults[i], x -> Boundaries.put(x, 0, 1, target));
            // Without GO: ahead of the gate and the ring, behind -21.
            b.faults(target + ", no GO", Math.max(faults[i], -22), x -> {
                Boundaries.put(x, 0, 1, target);
                x.set(1, 0, 3);
            });
        }
        b.faults("no GO", -22, x -> x.set(1, 0, 3));
        // GO alone is enough, and what the WORD is is no matter; the brackets tell the ring, not whether.
        b.then(x -> x.set(1, 0, 4));
        String[] there = {"none", "num 5", "halt", "ptr 0 9 9", "link z 9"};
        for (String line : there) {
            b.then(x -> {
                Boundaries.put(x, 1, 19, line);
                x.start(0, 0, 0);
            });
            b.runs(1, 1, 0);
            b.machine(1, 19, 3, 0);
        }
        b.then(x -> {
            x.pointer(0, 1, 1019, false);
            x.start(0, 0, 0);
        });
        b.runs(1, 1, 0);
        b.machine(1, 19, 2, 0);
        b.due(1, "frame", 2, 0, 4);
    }

    private void argumentOperands() {
        b.term(23, "Then the OPERANDS of w + 1 .. w + n, each with its e, the first first;");
        // A call at the end of its SEGMENT: w is there, and as many WORDS behind it as it has arguments.
        for (int n = 0; n <= 3; n++) {
            for (int length = 21; length <= 24; length++) {
                int arguments = n;
                int l = length;
                two(444, 444);
                b.then(x -> {
                    x.resize(0, l);
                    x.act(0, 0, 5, 20, arguments);
                    x.pointer(0, 20, 1003, false);
                    x.start(0, 0, 4);
                });
                if (20 + arguments < l) {
                    b.runs(1, 1, 0);
                    b.frame(4, 0, 0, 1, 4, arguments, 0);
                } else {
                    b.faults(-21);
                }
            }
        }
        two(444, 444);
        b.then(x -> {
            x.act(0, 0, 5, 23, 1);
            x.pointer(0, 23, 1003, false);
            x.start(0, 0, 4);
        });
        b.faults(-21);
        b.then(x -> x.act(0, 0, 5, 23, 0));
        b.runs(1, 1, 0);
        // The first FAULT is the first argument's, and what came ahead of it has SNAPPED its LINKS.
        String[] faulty = {"ind 4 9 0", "ind 4 1 23", "ind 5 1 0", "ind 4 1 0", "ind 4 1 1", "link z 0", "ind 4 0 23"};
        int[] faults = {-20, -21, -22, -23, -24, -26, -25};
        for (int place = 1; place <= 3; place++) {
            for (int i = 0; i < faulty.length; i++) {
                int p = place;
                String line = faulty[i];
                two(444, 444);
                b.then(x -> {
                    x.resize(1, 23);
                    x.number(1, 1, 5);
                    x.pointer(0, 23, 423, true);
                    Boundaries.put(x, 0, 0, "call 1 3;ptr 0 1 3;num 1;num 2;num 3");
                    Boundaries.put(x, 0, 1 + p, line);
                    x.start(0, 0, 4);
                });
                b.faults(faults[i]);
                if (p < 3) {
                    b.faults("behind it another", faults[i], x -> Boundaries.put(x, 0, 4, "ind 4 8 0"));
                }
                if (p > 1) {
                    b.then(x -> x.link(0, p, 1, 7));
                    b.runs(1, 0, faults[i]);
                    b.word(0, p, 5, 1407, 107);
                }
            }
        }
        // Their e begins with RING, not with the e of what is called: ring 3 may read nothing here, ring 1 may.
        two(117, 457);
        lines(0, "call 1 2;ptr 3 1 0;num 10;ptr 1 0 2");
        starts(0, 1);
        b.runs(1, 1, 0);
        b.frame(4, 0, 0, 1, 1, 2, 1);
        lines(1, "arg 1;set 0;back");
        b.runs(3, 3, 0);
        b.machine(0, 1, 1, 10);
        // Nor with the new RING: called by ring 3, a gate leads to ring 1, which alone may read the POINTER.
        two(137, 117);
        b.then(x -> {
            x.segment(0, 2, 2);
            x.brackets(2, 117);
            x.number(2, 0, 6);
            x.set(1, 1, 1);
        });
        lines(0, "call 1 1;ptr 0 1 0;ind 0 2 0");
        b.then(x -> x.start(0, 0, 3));
        b.faults(-22);
        // The ring's own FAULTS come ahead of any argument's.
        two(77, 112);
        lines(0, "call 1 1;ptr 2 1 3;ind 0 9 9");
        starts(0, 0);
        b.faults(-27);
        b.faults("above R3", -28, x -> x.pointer(0, 1, 1300, false));
        b.faults("by the gate", -20, x -> x.set(1, 1, 4));
    }

    private void argumentsPlaces() {
        b.term(23, "Then the OPERANDS of w + 1 .. w + n, each with its e, the first first;");
        // An inward CALL: arguments may be MISSING, of any kind, or nowhere.
        two(447, 447);
        lines(0, "call 1 3;ptr 0 1 0;none;ptr 0 9 23;halt");
        starts(0, 4);
        b.runs(1, 1, 0);
        b.frame(4, 0, 0, 1, 4, 3, 0);
        lines(1, "arg 0");
        b.faults("a MISSING one", -23, x -> { });
        b.faults("in no SEGMENT", -20, x -> x.act(1, 0, 7, 1, 0));
        b.faults("an ACT", -24, x -> x.act(1, 0, 7, 2, 0));
        // They are places: what is there now counts, not what was there at the CALL.
        b.then(x -> x.number(0, 2, 71));
        b.runs(1, 1, 0);
        b.machine(1, 1, 4, 71);
        // The POINTER to it may go meanwhile: the place was found at the CALL.
        two(447, 447);
        lines(0, "call 1 1;ptr 0 1 0;ptr 0 1 20");
        lines(1, "arg 0");
        starts(0, 4);
        steps(1);
        b.then(x -> {
            x.number(1, 20, 6);
            x.number(0, 2, 99);
        });
        b.runs(1, 1, 0);
        b.machine(1, 1, 4, 6);
    }

    private void outwardCopies() {
        b.term(23, "if OUTWARD, the NUMBER at each is copied (as by take).");
        b.term(23, "7 arg: A becomes the NUMBER that is argument w of the latest FRAME of RING's STACK (-31: no FRAME, no such"
            + " argument).");
        b.term(23, "8 set: that argument becomes the NUMBER A (-31).");
        two(127, 567);
        lines(0, "call 1 3;ptr 0 1 0;num 10;num 20;ptr 2 0 20");
        b.then(x -> {
            x.number(0, 20, MIN);
            Boundaries.put(x, 1, 0, "arg 0;arg 1;arg 2;set 0;arg 1;set 2;arg 0;arg 2;halt");
        });
        starts(0, 1);
        steps(1);
        b.machine(1, 0, 5, 0);
        // Copies: what becomes of the places is no matter to them.
        b.then(x -> {
            x.number(0, 2, 7);
            x.resize(0, 4);
        });
        int[] a = {10, 20, MIN, MIN, 20, 20, MIN, 20};
        for (int i = 0; i < a.length; i++) {
            b.runs(1, 1, 0);
            b.machine(1, i + 1, 5, a[i]);
            b.word(0, 2, 1, 7, 0);
        }
        b.runs(1, 1, 1);
        // A copy is set even though ring 5 may write nothing there; and none is, in an inward CALL.
        b.due(0, "access", 0, 5);
    }

    private void outwardCopyFaults() {
        b.term(23, "if OUTWARD, the NUMBER at each is copied (as by take).");
        b.term(23, "-20, -21, ACCESS READ by e (-22), -23, -24.");
        String[] faulty = {"ptr 0 9 0", "ptr 0 2 3", "ptr 4 2 0", "none", "halt", "ptr 1 2 1", "ptr 1 2 2"};
        int[] faults = {-20, -21, -22, -23, -24, -24, -23};
        for (int place = 0; place < 3; place++) {
            for (int i = 0; i < faulty.length; i++) {
                int p = place;
                String line = faulty[i];
                two(127, 567);
                b.then(x -> {
                    x.segment(0, 2, 3);
                    x.brackets(2, 33);
                    Boundaries.put(x, 2, 0, "num 1;ptr 0 0 0");
                    Boundaries.put(x, 0, 0, "call 1 3;ptr 0 1 0;num 10;num 20;num 30");
                    x.start(0, 0, 1);
                });
                b.due(1, "run", 1);
                b.then(x -> {
                    if (line.equals("none")) {
                        x.resize(0, 2 + p);
                        x.resize(0, 5);
                        for (int w = 3 + p; w < 5; w++) {
                            x.number(0, w, 1);
                        }
                    }
                    Boundaries.put(x, 0, 2 + p, line);
                });
                b.faults(faults[i]);
                // A FAULT of a later one's OPERAND is ahead of it, that of a later one's copy is not.
                if (p < 2) {
                    b.faults("a later OPERAND", -26, x -> x.link(0, 4, 25, 0));
                    b.faults("a later copy", faults[i], x -> x.act(0, 4, 0, 0, 0));
                }
                // Of an inward CALL none is copied.
                b.then(x -> x.brackets(1, 77));
                b.runs(1, 1, 0);
            }
        }
        // READ by its e, not by the ring: R2 at most.
        two(127, 567);
        lines(0, "call 1 1;ptr 0 1 0;ptr 2 0 20");
        b.then(x -> x.number(0, 20, 1));
        starts(0, 1);
        b.due(1, "run", 1);
        b.faults("e is 3", -22, x -> x.pointer(0, 2, 320, false));
    }

    private void stackIsFull() {
        b.term(23, "(-29: it has 6)");
        b.term(23, "-29 STACK;");
        for (int ring = 0; ring < 8; ring++) {
            int r = ring;
            b.given(x -> {
                x.segment(0, 0, 4);
                x.segment(0, 1, 4);
                x.brackets(0, 111 * r);
                Boundaries.put(x, 0, 0, "call 0 2;num 1;none");
                x.start(0, 0, r);
            });
            b.runs(5, 5, 0);
            b.due(5, "machine", 10 + r);
            b.runs(2, 1, -29);
            b.due(6, "machine", 10 + r);
            b.frame(r, 5, 0, 1, r, 2, 0);
            b.due(NOT, "frame", r, 6, 0);
            b.faults(-29);
            // It comes behind all the others: the place, the ring, the arguments.
            b.faults("an argument", -26, x -> x.link(0, 2, 25, 0));
            b.faults("the place", -20, x -> {
                x.act(0, 0, 5, 1, 0);
                x.pointer(0, 1, 9000, false);
            });
            b.then(x -> x.link(0, 2, 0, 3));
            b.runs(1, 0, -29);
            b.word(0, 2, 5, 100 * r + 3, 3);
            // A way BACK makes room for one.
            b.then(x -> {
                x.act(0, 0, 6, 0, 0);
                x.run(1);
                x.act(0, 1, 5, 0, 0);
                x.act(0, 0, 0, 0, 0);
            });
            b.due(5, "machine", 10 + r);
            b.runs(2, 2, 1);
            b.due(6, "machine", 10 + r);
        }
        // Of an OUTWARD CALL it is the new RING's STACK: ring 1 has room, ring 5 has none. The copies come ahead of it.
        two(157, 557);
        lines(0, "call 1 1;ptr 0 1 0;num 8");
        lines(1, "call 0 0");
        starts(0, 1);
        b.runs(7, 6, -29);
        b.due(6, "machine", 15);
        b.then(x -> {
            x.segment(0, 2, 4);
            x.brackets(2, 117);
            x.set(2, 1, 1);
            Boundaries.put(x, 1, 0, "call 1 0;ptr 0 2 0");
            Boundaries.put(x, 2, 0, "call 1 1;ptr 0 1 0;num 3");
        });
        b.runs(2, 1, -29);
        b.machine(2, 0, 1, 0);
        b.due(1, "machine", 11);
        b.due(6, "machine", 15);
        b.faults(-29);
        b.faults("a copy", -24, x -> x.act(2, 2, 0, 0, 0));
    }

    private void callOfItself() {
        b.term(23, "-29 STACK;");
        // Each ring has a STACK of its own: one that is full is no matter to another one.
        b.given(x -> {
            x.segment(0, 0, 9);
            x.brackets(0, 77);
            Boundaries.put(x, 0, 0, "call 0 0;call 2 0;ptr 5 0 4");
        });
        starts(0, 3);
        b.runs(7, 6, -29);
        b.then(x -> Boundaries.put(x, 0, 0, "go 1"));
        b.runs(2, 2, 0);
        b.machine(0, 4, 5, 0);
        b.due(6, "machine", 13);
        b.due(1, "machine", 15);
        b.frame(5, 0, 0, 2, 3, 0, 0);
        b.due(7, "dry", 1, 4);
    }

    private void faultOfCallLeavesAll() {
        b.term(23, "A FAULT: nothing is as the ACT did it,");
        // A FRAME that was there keeps its arguments, though the later CALL has found, or copied, some of its own.
        String[] calls = {"call 1 3;ptr 0 1 9;num 30;num 31;link z 3;arg 0;arg 1;arg 2",
            "call 1 3;ptr 0 2 0;num 30;num 31;none;arg 0;arg 1;arg 2"};
        int[] faults = {-26, -23};
        for (int i = 0; i < calls.length; i++) {
            two(127, 567);
            lines(0, "call 1 2;ptr 0 1 0;num 10;num 20");
            lines(1, calls[i]);
            b.then(x -> {
                x.segment(0, 2, 4);
                x.brackets(2, 667);
            });
            starts(0, 1);
            b.runs(2, 1, faults[i]);
            b.machine(1, 0, 5, 0);
            b.faults(faults[i]);
            b.then(x -> x.act(1, 0, 4, 5, 0));
            b.runs(2, 2, 0);
            b.machine(1, 6, 5, 10);
            b.runs(2, 1, -31);
            b.machine(1, 7, 5, 20);
            b.frame(5, 0, 0, 1, 1, 2, 1);
            b.dueWithin(10, 17, what -> what == 15 ? 1 : 0, 0, "machine", 0);
        }
    }

    private void backNone() {
        b.term(23, "BACK: the latest FRAME of RING's STACK (-30: none):");
        b.term(23, "-30 BACK;");
        for (int ring = 0; ring < 8; ring++) {
            int r = ring;
            b.given(x -> {
                x.segment(0, 0, 3);
                x.brackets(0, 77);
                Boundaries.put(x, 0, 0, "back;back;call 0 0");
                x.start(0, 0, r);
            });
            b.faults(-30);
            b.then(x -> x.start(0, 2, r));
            b.runs(2, 2, 0);
            b.machine(0, 3, r, 0);
            b.due(0, "machine", 10 + r);
            b.then(x -> {
                x.start(0, 2, r);
                x.run(1);
                x.act(0, 0, 4, 1, 0);
                x.pointer(0, 1, 100 * Math.min(7, r + 1), false);
                x.act(0, 2, 6, 0, 0);
                x.run(1);
                x.act(0, 0, 6, 0, 0);
            });
            // By go it is in another ring, whose STACK is empty.
            if (r < 7) {
                b.due(r + 1, "machine", 2);
                b.faults(-30);
                b.due(1, "machine", 10 + r);
            }
        }
    }

    private void backInward() {
        b.term(23, "The FRAME goes; AT, RING are as it says.");
        two(457, 117);
        lines(0, "call 5 1;halt;none;none;call 7 0;ptr 0 1 0;num 3;ptr 0 1 1");
        lines(1, "back;halt");
        b.then(x -> x.set(1, 1, 24));
        for (int ring = 4; ring <= 5; ring++) {
            int r = ring;
            starts(0, r);
            steps(1);
            b.machine(1, 0, 1, 0);
            b.runs(1, 1, 0);
            b.machine(0, 1, r, 0);
            b.dueWithin(10, 17, what -> 0, 0, "machine", 0);
            b.runs(1, 1, 1);
        }
        // It goes to the place that it has, be there another SEGMENT by then.
        starts(0, 5);
        steps(1);
        b.then(x -> {
            x.drop(0);
            x.segment(0, 7, 2);
            x.brackets(0, 457);
            x.act(0, 1, 0, 0, 0);
        });
        b.runs(2, 2, 1);
        b.machine(0, 1, 5, 0);
        two(457, 117);
        lines(0, "call 5 1;halt;none;none;call 7 0;ptr 0 1 0;num 3;ptr 0 1 1");
        lines(1, "back;halt");
        b.then(x -> x.set(1, 1, 24));
        // Or none: only the next STEP asks.
        starts(0, 5);
        steps(1);
        b.then(x -> x.drop(0));
        b.runs(1, 1, 0);
        b.machine(0, 1, 5, 0);
        b.faults(-20);
        // Behind a CALL in the last WORD there is none.
        b.given(x -> {
            x.segment(0, 0, 24);
            Boundaries.put(x, 0, 0, "back");
            x.act(0, 23, 5, 0, 0);
            x.start(0, 23, 4);
            x.run(1);
        });
        b.frame(4, 0, 0, 24, 4, 0, 0);
        b.runs(2, 1, -21);
        b.machine(0, 24, 4, 0);
        // The latest goes first.
        b.given(x -> {
            x.segment(0, 0, 24);
            Boundaries.put(x, 0, 0, "call 1 0;call 2 0;call 3 0;back");
            x.start(0, 0, 4);
            x.run(3);
        });
        b.due(3, "machine", 14);
        b.runs(1, 1, 0);
        b.machine(0, 3, 4, 0);
        b.due(2, "machine", 14);
        b.runs(1, 1, 0);
        b.machine(0, 2, 4, 0);
        b.frame(4, 0, 0, 1, 4, 0, 0);
        b.due(NOT, "frame", 4, 1, 0);
    }

    private void backOutward() {
        b.term(23, "of an OUTWARD one the copies that were set are put back, the first first, each as by put with its e");
        // Each of the eight ways to have set some of three.
        for (int bits = 0; bits < 8; bits++) {
            int set = bits;
            two(127, 567);
            lines(0, "call 1 3;ptr 0 1 0;num 10;ptr 1 0 20;num 30;halt");
            b.then(x -> {
                x.number(0, 20, 20);
                x.number(1, 9, -5);
                x.act(1, 0, 1, 9, 0);
                for (int i = 0; i < 3; i++) {
                    if ((set >> i & 1) == 1) {
                        x.act(1, 1 + i, 8, i, 0);
                    } else {
                        x.act(1, 1 + i, 7, i, 0);
                    }
                }
                x.act(1, 4, 6, 0, 0);
                x.act(1, 0, 1, 9, 0);
                x.start(0, 0, 1);
                x.run(2);
                x.number(0, 2, 100);
                x.number(0, 4, 300);
            });
            b.runs(3, 3, 0);
            b.word(0, 2, 1, 100, 0);
            b.word(0, 20, 1, 20, 0);
            b.word(0, 4, 1, 300, 0);
            int a0 = -5;
            int a1 = (set & 1) == 1 ? a0 : 10;
            int a2 = (set & 2) == 2 ? a1 : 20;
            b.runs(1, 1, 0);
            b.word(0, 2, 1, (set & 1) == 1 ? a0 : 100, 0);
            b.word(0, 20, 1, (set & 2) == 2 ? a1 : 20, 0);
            b.word(0, 4, 1, (set & 4) == 4 ? a2 : 300, 0);
            b.due(1, "machine", 1);
            b.due(1, "machine", 2);
            b.due(0, "machine", 15);
        }
        // Set to what it was: it is put back all the same, over whatever is there.
        two(127, 567);
        lines(0, "call 1 1;ptr 0 1 0;num 10;halt");
        lines(1, "arg 0;set 0;back");
        starts(0, 1);
        steps(3);
        b.then(x -> x.act(0, 2, 0, 0, 0));
        b.runs(1, 1, 0);
        b.word(0, 2, 1, 10, 0);
        // Two at one place: the first first, so the second stays.
        two(127, 567);
        lines(0, "call 1 2;ptr 0 1 0;num 10;ptr 1 0 2;halt");
        lines(1, "take 9;set 1;take 10;set 0;back;none;none;none;none;num 4;num 5");
        starts(0, 1);
        steps(6);
        b.word(0, 2, 1, 4, 0);
    }

    private void backFaults() {
        b.term(23, "each as by put with its e (a FAULT of one: all is undone).");
        two(127, 567);
        lines(0, "call 1 1;ptr 0 1 0;ptr 1 2 2");
        lines(1, "set 0;back");
        b.then(x -> {
            x.segment(0, 2, 3);
            x.brackets(2, 117);
            x.number(2, 2, 9);
        });
        starts(0, 1);
        steps(2);
        b.due(1, "run", 1);
        b.faults("no such SEGMENT", -20, x -> x.drop(2));
        b.faults("no such WORD", -21, x -> x.resize(2, 2));
        b.faults("R1 is 0", -22, x -> x.brackets(2, 17));
        b.faults("MAY has no WRITE", -22, x -> x.set(2, 0, 5));
        b.faults("-21 ahead of -22", -21, x -> {
            x.resize(2, 1);
            x.set(2, 0, 0);
        });
        // By its e, though it was called by a lower ring: e is 2 here.
        two(127, 567);
        lines(0, "call 1 1;ptr 0 1 0;ptr 2 0 5");
        lines(1, "set 0;back");
        b.then(x -> x.number(0, 5, 1));
        starts(0, 1);
        steps(2);
        b.faults(-22);
        b.then(x -> x.brackets(0, 227));
        b.runs(1, 1, 0);
        b.word(0, 5, 1, 0, 0);
        // One that was not set is not put: no FAULT of it.
        two(127, 567);
        lines(0, "call 1 1;ptr 0 1 0;ptr 2 0 5");
        lines(1, "arg 0;back");
        b.then(x -> x.number(0, 5, 1));
        starts(0, 1);
        b.runs(3, 3, 0);
        b.machine(0, 1, 1, 1);
    }

    private void backFaultOfALaterOne() {
        b.term(23, "(a FAULT of one: all is undone).");
        for (int last = 0; last < 3; last++) {
            int bad = last;
            two(127, 567);
            lines(0, "call 1 3;ptr 0 1 0;num 10;num 20;num 30;num 40");
            lines(1, "set 0;set 1;set 2;back");
            b.then(x -> {
                x.segment(0, 2, 3);
                x.brackets(2, 117);
                x.number(2, 0, 50);
                x.pointer(0, 2 + bad, 2100, false);
            });
            starts(0, 1);
            steps(4);
            b.due(1, "run", 1);
            b.faults("its SEGMENT is gone", -20, x -> x.drop(2));
            b.faults("it can't be written", -22, x -> x.brackets(2, 17));
            for (int w = 2; w < 5; w++) {
                if (w != 2 + bad) {
                    b.word(0, w, 1, 10 * (w - 1), 0);
                }
            }
        }
        // Of two FAULTS the first one's.
        two(127, 567);
        lines(0, "call 1 2;ptr 0 1 0;ptr 1 2 0;ptr 1 3 0");
        lines(1, "set 0;set 1;back");
        b.then(x -> {
            for (int s = 2; s < 4; s++) {
                x.segment(0, s, 3);
                x.brackets(s, 117);
                x.number(s, 0, s);
            }
        });
        starts(0, 1);
        steps(3);
        b.faults("first gone, second not writable", -20, x -> {
            x.drop(2);
            x.set(3, 0, 0);
        });
        b.faults("first not writable, second gone", -22, x -> {
            x.set(2, 0, 0);
            x.drop(3);
        });
    }

    private void argOfNone() {
        b.term(23, "(-31: no FRAME, no such argument).");
        b.term(23, "-31 ARGUMENT.");
        b.term(23, "8 set: that argument becomes the NUMBER A (-31).");
        int[] whats = {7, 8};
        for (int what : whats) {
            for (int n = 0; n <= 3; n++) {
                int arguments = n;
                // Inward by brackets 77 of what is called, OUTWARD by 567.
                int[] rrrs = {77, 567};
                for (int rrr : rrrs) {
                    two(127, rrr);
                    b.then(x -> {
                        Boundaries.put(x, 0, 0, "call 1 0;ptr 0 1 0;num 10;num 20;num 30");
                        x.act(0, 0, 5, 1, arguments);
                        x.start(0, 0, 1);
                        x.run(1);
                    });
                    for (int w = 0; w < 24; w++) {
                        int of = w;
                        if (w < n) {
                            b.then(x -> x.act(1, 0, what, of, 0));
                            b.due(1, "run", 1);
                        } else if (w < 5 || w == 23) {
                            b.faults("argument " + w + " of " + n, -31, x -> x.act(1, 0, what, of, 0));
                        }
                    }
                }
            }
            for (int ring = 0; ring < 8; ring++) {
                int r = ring;
                b.given(x -> {
                    x.segment(0, 0, 3);
                    x.brackets(0, 77);
                    x.act(0, 0, what, 0, 0);
                    x.start(0, 0, r);
                });
                b.faults(-31);
            }
        }
    }

    private void argOfTheLatest() {
        b.term(23, "argument w of the latest FRAME of RING's STACK");
        two(444, 444);
        lines(0, "call 2 1;halt;ptr 0 0 10;num 10");
        b.then(x -> {
            Boundaries.put(x, 0, 10, "call 18 2;arg 0;arg 1");
            Boundaries.put(x, 0, 15, "arg 0;arg 1;back;ptr 0 0 15;num 20;num 30");
            x.start(0, 0, 4);
        });
        b.runs(3, 3, 0);
        b.machine(0, 16, 4, 20);
        b.runs(1, 1, 0);
        b.machine(0, 17, 4, 30);
        b.due(2, "machine", 14);
        b.faults("a third", -31, x -> x.act(0, 17, 7, 2, 0));
        b.runs(2, 2, 0);
        b.machine(0, 12, 4, 10);
        b.faults(-31);
        // Of RING's STACK: in another ring there is no such FRAME.
        for (int called = 0; called < 7; called++) {
            for (int gone = called + 1; gone < 8; gone++) {
                int ring = called;
                int other = gone;
                two(77, 77);
                lines(0, "call 1 1;ptr 0 1 0;num 10");
                lines(1, "go 1;none;arg 0");
                b.then(x -> {
                    x.pointer(1, 1, 1002 + 100 * other, false);
                    x.start(0, 0, ring);
                });
                b.runs(3, 2, -31);
                b.machine(1, 2, other, 0);
                b.due(1, "machine", 10 + ring);
                b.faults("set", -31, x -> x.act(1, 2, 8, 0, 0));
                b.faults("back", -30, x -> x.act(1, 2, 6, 0, 0));
            }
        }
    }

    private void argInward() {
        b.term(23, "An argument that is no copy is read (arg), written (set) at its place,");
        two(447, 447);
        lines(0, "call 1 2;ptr 0 1 0;num 10;none");
        lines(1, "arg 0;set 1;halt");
        starts(0, 4);
        b.runs(1, 1, 0);
        b.then(x -> x.number(0, 2, MAX));
        b.runs(1, 1, 0);
        b.machine(1, 1, 4, MAX);
        b.word(0, 3, 0, 0, 0);
        b.runs(1, 1, 0);
        b.word(0, 3, 1, MAX, 0);
        // BACK puts nothing of an inward one.
        b.then(x -> {
            x.number(0, 3, 1);
            x.act(1, 2, 6, 0, 0);
        });
        b.runs(1, 1, 0);
        b.word(0, 3, 1, 1, 0);
        b.machine(0, 1, 4, MAX);
    }

    private void argGreaterRing() {
        b.term(23, "by the greater of its e and RING:");
        // Called by a gate from ring e into ring 1: e is the greater one. It is a place in SEGMENT 2.
        for (int caller = 1; caller < 8; caller++) {
            int e = caller;
            for (int r = 0; r < 8; r++) {
                int r2 = r;
                two(77, 117);
                b.then(x -> {
                    x.set(1, 1, 1);
                    x.segment(0, 2, 1);
                    x.number(2, 0, 6);
                    Boundaries.put(x, 0, 0, "call 1 1;ptr 0 1 0;ptr 0 2 0");
                    Boundaries.put(x, 1, 0, "arg 0;set 0");
                    x.start(0, 0, e);
                    x.run(1);
                    x.brackets(2, 11 * r2);
                });
                b.machine(1, 0, 1, 0);
                if (e <= r2) {
                    b.runs(1, 1, 0);
                } else {
                    b.faults(-22);
                }
                b.then(x -> {
                    x.act(1, 0, 8, 0, 0);
                    x.start(0, 0, e);
                    x.run(1);
                    x.brackets(2, 100 * r2 + 77);
                });
                if (e <= r2) {
                    b.runs(1, 1, 0);
                } else {
                    b.faults(-22);
                }
            }
        }
        // Its e may be greater than the ring that called, by the POINTER to it.
        two(77, 77);
        b.then(x -> {
            x.segment(0, 2, 1);
            x.number(2, 0, 6);
            x.brackets(2, 55);
            Boundaries.put(x, 0, 0, "call 1 1;ptr 0 1 0;ptr 5 2 0");
            Boundaries.put(x, 1, 0, "arg 0");
            x.start(0, 0, 2);
            x.run(1);
        });
        b.due(1, "run", 1);
        b.faults("R2 is 4", -22, x -> x.brackets(2, 44));
        // RING is the greater one where the CALL itself was raised by a POINTER.
        two(77, 77);
        b.then(x -> {
            x.segment(0, 2, 1);
            x.number(2, 0, 6);
            x.brackets(2, 55);
            Boundaries.put(x, 0, 0, "call 1 1;ptr 5 1 0;ptr 0 2 0");
            Boundaries.put(x, 1, 0, "arg 0");
            x.start(0, 0, 2);
            x.run(1);
        });
        b.machine(1, 0, 5, 0);
        b.due(1, "run", 1);
        b.faults("R2 is 4", -22, x -> x.brackets(2, 44));
        b.then(x -> {
            x.act(1, 0, 8, 0, 0);
            x.brackets(2, 555);
        });
        b.due(1, "run", 1);
        b.faults("R1 is 4", -22, x -> x.brackets(2, 455));
    }

    private void argFaults() {
        b.term(23, "FAULTS as of take, put.");
        two(447, 447);
        b.then(x -> {
            x.segment(0, 2, 3);
            // A is 30, which is no NUMBER that was ever read: a FAULT leaves it.
            Boundaries.put(x, 0, 0, "take 5;add 6;call 3 1;ptr 0 1 0;ptr 0 2 2;num 10;num 20");
            Boundaries.put(x, 1, 0, "arg 0");
            x.number(2, 2, 8);
            x.start(0, 0, 4);
            x.run(3);
        });
        b.machine(1, 0, 4, 30);
        b.due(1, "run", 1);
        b.faults("no such SEGMENT", -20, x -> x.drop(2));
        b.faults("no such WORD", -21, x -> x.resize(2, 2));
        b.faults("no READ", -22, x -> x.set(2, 0, 6));
        b.faults("R2 is 3", -22, x -> x.brackets(2, 333));
        b.faults("MISSING", -23, x -> {
            x.resize(2, 2);
            x.resize(2, 3);
        });
        String[] others = {"halt", "ptr 4 2 0", "ind 4 2 0", "link a 0"};
        for (String other : others) {
            b.faults(other, -24, x -> Boundaries.put(x, 2, 2, other));
            b.faults(other + ", no READ", -22, x -> {
                Boundaries.put(x, 2, 2, other);
                x.set(2, 0, 0);
            });
        }
        b.faults("-21 ahead of -22", -21, x -> {
            x.resize(2, 1);
            x.set(2, 0, 0);
        });
        b.runs(1, 1, 0);
        b.machine(1, 1, 4, 8);
    }

    private void setFaults() {
        b.term(23, "FAULTS as of take, put.");
        two(447, 447);
        b.then(x -> {
            x.segment(0, 2, 3);
            Boundaries.put(x, 0, 0, "call 1 1;ptr 0 1 0;ptr 0 2 2");
            Boundaries.put(x, 1, 0, "set 0");
            x.start(0, 0, 4);
            x.run(1);
        });
        String[] there = {"none", "num 1", "halt", "ptr 4 2 0", "ind 4 2 0", "link a 0"};
        for (String line : there) {
            b.then(x -> {
                Boundaries.put(x, 2, 2, line);
                x.start(0, 0, 4);
                x.run(1);
            });
            b.runs(1, 1, 0);
            b.word(2, 2, 1, 0, 0);
        }
        b.then(x -> {
            x.start(0, 0, 4);
            x.run(1);
        });
        b.faults("no such SEGMENT", -20, x -> x.drop(2));
        b.faults("no such WORD", -21, x -> x.resize(2, 2));
        b.faults("no WRITE", -22, x -> x.set(2, 0, 5));
        b.faults("R1 is 3", -22, x -> x.brackets(2, 344));
        b.faults("-21 ahead of -22", -21, x -> {
            x.resize(2, 1);
            x.set(2, 0, 0);
        });
        b.then(x -> x.set(2, 0, 2));
        b.due(1, "run", 1);
    }
}
