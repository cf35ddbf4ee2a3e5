import java.math.BigInteger;

/** The boundaries of promises 27 to 36, and of the Terms' third part. */
final class ThoughtBoundaries {
    private static final int BAD = Boundaries.BAD, NOT = Boundaries.NOT, STATE = Boundaries.STATE, VOID = Boundaries.VOID;
    private static final int MIN = Boundaries.MIN, MAX = Boundaries.MAX;

    private final Boundaries b;

    ThoughtBoundaries(Boundaries b) {
        this.b = b;
    }

    void all() {
        dry();
        dryFrames();
        dryBad();
        operand();
        operandBad();
        enters();
        entersBad();
        access();
        waysOfNone();
        waysInward();
        waysOutward();
        waysAsked();
        waysBad();
        stale();
        staleEverywhere();
        drawn();
        drawnBad();
        image();
        back();
        backLeaves();
        anotherObject();
        lastCall();
        countSmall();
        countGreat();
    }

    private void two(int first, int second) {
        b.given(x -> {
            x.segment(0, 0, 24);
            x.segment(0, 1, 24);
            x.brackets(0, first);
            x.brackets(1, second);
        });
    }

    private void lines(int segment, String lines) {
        b.then(x -> Boundaries.put(x, segment, 0, lines));
    }

    /** Steps, WHY, A, RING and FRAMES of a RUN of n in thought, which changes nothing. */
    private void dryIs(int n, int... due) {
        for (int what = 0; what < 5; what++) {
            b.keeps(due[what], "dry", n, what);
        }
    }

    private void dry() {
        b.promise(27, "A RUN: STEPS (what 0), WHY (1), A (2), RING (3), FRAMES (4).");
        b.term(27, "IN THOUGHT: a RUN: STEPS; WHY; A; RING then; FRAMES on all STACKS then.");
        two(127, 567);
        lines(0, "take 5;call 3 1;halt;ptr 0 1 0;num 10;link b 5");
        lines(1, "add 5;set 0;back;none;none;num 7");
        b.then(x -> x.start(0, 0, 1));
        dryIs(1, 1, 0, 7, 1, 0);
        dryIs(2, 2, 0, 7, 5, 1);
        dryIs(3, 3, 0, 14, 5, 1);
        dryIs(4, 4, 0, 14, 5, 1);
        dryIs(5, 5, 0, 14, 1, 0);
        dryIs(6, 6, 1, 14, 1, 0);
        dryIs(7, 6, 1, 14, 1, 0);
        dryIs(200, 6, 1, 14, 1, 0);
        b.word(0, 5, 4, 105, 0);
        b.word(0, 4, 1, 10, 0);
        // At a FAULT: what it is then, which the ACT did not change.
        b.then(x -> x.brackets(0, 27));
        dryIs(4, 4, 0, 14, 5, 1);
        dryIs(5, 4, -22, 14, 5, 1);
        dryIs(200, 4, -22, 14, 5, 1);
        // From where it is, with the FRAMES, the copies and the A that it has; WHY is the thought one's own.
        b.then(x -> x.run(200));
        b.due(-22, "why");
        dryIs(1, 0, -22, 14, 5, 1);
        b.then(x -> x.brackets(0, 127));
        dryIs(1, 1, 0, 14, 1, 0);
        dryIs(2, 2, 1, 14, 1, 0);
        b.due(-22, "why");
        b.then(x -> x.run(1));
        b.word(0, 4, 1, 14, 0);
        dryIs(1, 1, 1, 14, 1, 0);
        b.given(x -> { });
        dryIs(1, 0, -20, 0, 4, 0);
        dryIs(200, 0, -20, 0, 4, 0);
        // It is of the machine as it is, whatever an IMAGE keeps.
        b.then(x -> {
            x.image();
            x.segment(0, 0, 2);
            Boundaries.put(x, 0, 0, "add 1;num 9");
        });
        dryIs(1, 1, 0, 9, 4, 0);
        dryIs(2, 1, -24, 9, 4, 0);
    }

    /** Six FRAMES on each of the eight STACKS. */
    private static void allFrames(RingGates x) {
        x.segment(0, 0, 3);
        x.brackets(0, 77);
        x.start(0, 0, 0);
        for (int ring = 0; ring < 8; ring++) {
            x.act(0, 0, 5, 0, 0);
            x.run(6);
            x.act(0, 0, 4, 1, 0);
            x.pointer(0, 1, 100 * Math.min(7, ring + 1), false);
            if (ring < 7) {
                x.run(1);
            }
        }
    }

    private void dryFrames() {
        b.term(27, "FRAMES on all STACKS then.");
        b.given(ThoughtBoundaries::allFrames);
        b.dueWithin(10, 17, what -> 6, 0, "machine", 0);
        for (int ring = 0; ring < 8; ring++) {
            for (int k = 0; k < 6; k++) {
                b.frame(ring, k, 0, 1, ring, 0, 0);
            }
            b.due(NOT, "frame", ring, 6, 0);
        }
        dryIs(1, 1, 0, 0, 7, 48);
        b.then(x -> x.act(0, 0, 6, 0, 0));
        dryIs(1, 1, 0, 0, 7, 47);
        b.then(x -> x.act(0, 0, 5, 0, 0));
        dryIs(1, 0, -29, 0, 7, 48);
        b.then(x -> x.start(0, 0, 7));
        b.dueWithin(10, 17, what -> 0, 0, "machine", 0);
        dryIs(1, 1, 0, 0, 7, 1);
        dryIs(7, 6, -29, 0, 7, 6);
    }

    private void dryBad() {
        b.promise(27, "VOID: BAD.");
        b.given(x -> {
            x.segment(0, 0, 3);
            Boundaries.put(x, 0, 0, "add 2;go 0;num 1");
        });
        for (int what = 0; what < 5; what++) {
            b.keepsBeyond(1, 200, VOID, 0, "dry", 1, what);
        }
        b.keepsBeyond(0, 4, VOID, 1, "dry", 1, 0);
        b.keepsBeyond(0, 4, VOID, 1, "dry", 200, 0);
        b.keeps(VOID, "dry", 0, 5);
        b.keeps(200, "dry", 200, 0);
        b.keeps(1, "dry", 1, 0);
    }

    private void operand() {
        b.promise(28, "OPERAND by a RING: e (what 0), SEGMENT (1), WORD (2).");
        b.term(28, "OPERAND of a WORD w of a SEGMENT, gone through by a told RING: e; SEGMENT; WORD (FAULTS told).");
        // The machine's own ring and place are no matter.
        two(77, 177);
        lines(0, "num 1;ptr 3 9 23;ind 2 1 0;link b 8");
        lines(1, "ptr 0 15 0");
        int[] starts = {0, 7};
        for (int ring : starts) {
            b.then(x -> x.start(1, 5, ring));
            for (int e = 0; e < 8; e++) {
                int[][] due = {{e, 0, 0}, {Math.max(3, e), 9, 23}, {Math.max(2, e), 15, 0}, {e, 1, 8}};
                for (int w = 0; w < 4; w++) {
                    for (int what = 0; what < 3; what++) {
                        b.keeps(due[w][what], "operand", 0, w, e, what);
                    }
                }
            }
        }
        b.word(0, 3, 4, 108, 0);
        b.promise(28, "FAULTS.");
        String[] faulty = {"ind 0 9 0", "ind 0 1 20", "ind 4 1 0", "ind 3 1 1", "ind 3 1 2", "ind 3 1 3", "ind 3 1 5", "link z 0"};
        int[] faults = {-20, -21, -22, -23, -24, -24, -25, -26};
        two(37, 37);
        b.then(x -> {
            x.resize(1, 20);
            Boundaries.put(x, 1, 0, "none;none;num 1;halt;none;ind 3 1 5");
        });
        for (int i = 0; i < faulty.length; i++) {
            String line = faulty[i];
            b.then(x -> Boundaries.put(x, 0, 23, line));
            for (int what = 0; what < 3; what++) {
                b.keeps(faults[i], "operand", 0, 23, 3, what);
                b.keeps(-22, "operand", 0, 23, 4, what);
            }
        }
    }

    private void operandBad() {
        b.promise(28, "BAD (the SEGMENT, that WORD there; RING; what);");
        int[] lengths = {1, 8, 23, 24};
        b.given(x -> {
            for (int s = 0; s < lengths.length; s++) {
                x.segment(0, s, lengths[s]);
                // All of these have a FAULT, which BAD is named ahead of.
                x.link(s, 0, 25, 0);
            }
        });
        for (int s = 0; s < lengths.length; s++) {
            b.keepsBeyond(0, lengths[s] - 1, BAD, 1, "operand", s, 0, 4, 0);
            b.due(lengths[s] == 1 ? -26 : lengths[s] - 1, "operand", s, lengths[s] - 1, 4, 2);
        }
        b.keepsBeyond(0, 3, BAD, 0, "operand", 0, 0, 4, 0);
        b.keepsBeyond(0, 7, BAD, 2, "operand", 0, 0, 0, 0);
        b.keepsBeyond(0, 2, BAD, 3, "operand", 0, 0, 4, 0);
        b.keepsBeyond(0, 2, BAD, 3, "operand", 3, 23, 4, 0);
        b.due(-26, "operand", 0, 0, 4, 0);
        b.then(x -> x.drop(2));
        b.keeps(BAD, "operand", 2, 0, 4, 0);
    }

    private void enters() {
        b.promise(29, "ENTERS.");
        b.term(29, "ENTERS: the RING in which a CALL of a WORD of a SEGMENT by a told ring comes (FAULTS -20, -21, -22, -27, -28 as"
            + " of CALL).");
        for (int rrr = 0; rrr <= 777; rrr++) {
            int r1 = rrr / 100;
            int r2 = rrr / 10 % 10;
            int r3 = rrr % 10;
            if (r1 > r2 || r2 > r3 || r3 > 7) {
                continue;
            }
            int of = rrr;
            b.given(x -> {
                x.segment(0, 0, 8);
                x.brackets(0, of);
                x.set(0, 1, 5);
            });
            for (int e = 0; e < 8; e++) {
                int open = e < r1 ? r1 : e <= r2 ? e : e <= r3 ? r2 : -28;
                b.due(open, "enters", 0, 4, e);
                b.due(e > r2 && e <= r3 ? -27 : open, "enters", 0, 5, e);
                b.due(-21, "enters", 0, 8, e);
                b.due(-20, "enters", 1, 4, e);
            }
        }
        b.promise(29, "FAULTS.");
        b.term(29, "Of several at one place that with the greater number (-20 ahead of -21, and so on).");
        b.given(x -> {
            x.segment(0, 0, 8);
            x.brackets(0, 245);
            x.set(0, 1, 5);
        });
        for (int may = 0; may < 8; may++) {
            int m = may;
            b.then(x -> x.set(0, 0, m));
            b.keeps(m < 4 ? -22 : 2, "enters", 0, 0, 0);
            b.keeps(m < 4 ? -22 : 3, "enters", 0, 7, 3);
            b.keeps(m < 4 ? -22 : 4, "enters", 0, 4, 5);
            b.keeps(m < 4 ? -22 : -27, "enters", 0, 5, 5);
            b.keeps(m < 4 ? -22 : -28, "enters", 0, 4, 6);
            b.keeps(m < 4 ? -22 : -28, "enters", 0, 5, 7);
            b.keeps(-21, "enters", 0, 8, 7);
            b.keeps(-21, "enters", 0, 23, 0);
            b.keeps(-20, "enters", 1, 23, 7);
            b.keeps(-20, "enters", 15, 0, 0);
        }
        b.then(x -> x.drop(0));
        b.keeps(-20, "enters", 0, 0, 0);
    }

    private void entersBad() {
        b.promise(29, "BAD (0 .. 15, 0 .. 23, 0 .. 7);");
        b.given(x -> x.segment(0, 0, 24));
        for (int s = 0; s <= 15; s += 15) {
            b.keepsBeyond(0, 15, BAD, 0, "enters", s, 0, 4);
            b.keepsBeyond(0, 23, BAD, 1, "enters", s, 0, 4);
            b.keepsBeyond(0, 7, BAD, 2, "enters", s, 0, 4);
        }
        b.dueWithin(0, 15, s -> s == 0 ? 4 : -20, 0, "enters", 0, 23, 4);
        b.dueWithin(0, 23, w -> 4, 1, "enters", 0, 0, 4);
        b.dueWithin(0, 7, e -> e <= 4 ? 4 : -28, 2, "enters", 0, 0, 0);
    }

    private void access() {
        b.promise(30, "What a ring has of a SEGMENT (bits): 1 READ, 2 WRITE, 4 GO.");
        b.term(30, "ACCESS by a ring e: READ: MAY has it, e is R2 at most.");
        b.term(30, "WRITE: MAY has it, e is R1 at most.");
        b.term(30, "GO: MAY has it, e is R1 at least, R2 at most.");
        for (int r1 = 0; r1 < 8; r1++) {
            for (int r2 = r1; r2 < 8; r2++) {
                for (int may = 0; may < 8; may++) {
                    int rrr = 100 * r1 + 10 * r2 + 7;
                    int m = may;
                    b.given(x -> {
                        x.segment(0, 0, 1);
                        x.brackets(0, rrr);
                        x.set(0, 0, m);
                    });
                    int least = r1;
                    int most = r2;
                    b.dueWithin(0, 7, e -> m & ((e <= most ? 1 : 0) + (e <= least ? 2 : 0) + (e >= least && e <= most ? 4 : 0)),
                        1, "access", 0, 0);
                }
            }
        }
        // R3 is no matter to it.
        b.then(x -> x.brackets(0, 355));
        b.keeps(7, "access", 0, 3);
        b.keeps(3, "access", 0, 2);
        b.keeps(5, "access", 0, 5);
        b.keeps(0, "access", 0, 6);
        b.promise(30, "BAD.");
        b.keepsBeyond(0, 0, BAD, 0, "access", 0, 3);
        b.keepsBeyond(0, 7, BAD, 1, "access", 0, 3);
        b.then(x -> x.drop(0));
        b.keeps(BAD, "access", 0, 3);
    }

    /** FEWEST from a ring to each, then DEEPEST. */
    private void waysFrom(int a, int... due) {
        for (int ring = 0; ring < 8; ring++) {
            b.keeps(due[ring], "ways", a, ring);
        }
        b.keeps(due[8], "ways", a, -1);
    }

    private void waysOfNone() {
        b.promise(31, "FEWEST (b 0 .. 7), DEEPEST (b -1).");
        b.term(31, "(0: a is b); NOT.");
        b.term(31, "DEEPEST: the least ring to which one comes so from ring a (0 CALLS, too).");
        b.given(x -> { });
        for (int a = 0; a < 8; a++) {
            for (int to = 0; to < 8; to++) {
                b.keeps(to == a ? 0 : NOT, "ways", a, to);
            }
            b.keeps(a, "ways", a, -1);
        }
        // One without GO, and one that leaves each ring where it is.
        b.then(x -> {
            x.segment(0, 0, 24);
            x.segment(0, 1, 24);
            x.brackets(0, 447);
            x.set(0, 1, 24);
            x.set(0, 0, 3);
            x.brackets(1, 77);
        });
        for (int a = 0; a < 8; a++) {
            for (int to = 0; to < 8; to++) {
                b.keeps(to == a ? 0 : NOT, "ways", a, to);
            }
            b.keeps(a, "ways", a, -1);
        }
    }

    private void waysInward() {
        b.term(31, "FEWEST: by how few CALLS, each of any WORD of any SEGMENT that is there, one comes from ring a to ring b"
            + " (0: a is b); NOT.");
        // SEGMENT s has a gate from ring s + 1 to ring s: seven CALLS from 7 to 0.
        b.given(x -> {
            for (int s = 0; s < 7; s++) {
                x.segment(0, s, 1);
                x.brackets(s, 111 * s + 1);
                x.set(s, 1, 1);
            }
        });
        waysFrom(7, 7, 6, 5, 4, 3, 2, 1, 0, 0);
        waysFrom(4, 4, 3, 2, 1, 0, 1, 1, NOT, 0);
        waysFrom(0, 0, 1, 1, 1, 1, 1, 1, NOT, 0);
        // A shorter way, from 7 to 2 at once.
        b.then(x -> {
            x.segment(0, 7, 24);
            x.brackets(7, 227);
            x.set(7, 1, 1);
        });
        waysFrom(7, 3, 2, 1, 2, 2, 2, 1, 0, 0);
        b.then(x -> x.brackets(7, 226));
        waysFrom(7, 4, 3, 2, 3, 3, 2, 1, 0, 0);
        // Without a gate no ring above R2 comes in; with a gate, WORD 0 at least is one.
        b.then(x -> x.set(7, 1, 0));
        waysFrom(7, 7, 6, 5, 4, 3, 2, 1, 0, 0);
        b.then(x -> x.set(4, 1, 0));
        waysFrom(7, NOT, NOT, NOT, NOT, NOT, 2, 1, 0, 5);
        waysFrom(4, 4, 3, 2, 1, 0, 1, 1, NOT, 0);
        b.then(x -> x.set(7, 1, 24));
        waysFrom(7, 4, 3, 2, 3, 3, 2, 1, 0, 0);
        b.then(x -> x.drop(7));
        waysFrom(7, NOT, NOT, NOT, NOT, NOT, 2, 1, 0, 5);
        b.then(x -> x.set(5, 0, 3));
        waysFrom(7, NOT, NOT, NOT, NOT, NOT, NOT, 1, 0, 6);
        // The last SEGMENT counts as the first does.
        b.given(x -> {
            for (int s = 0; s < 16; s++) {
                x.segment(0, s, 1);
                x.brackets(s, 77);
            }
            x.brackets(15, 337);
            x.set(15, 1, 1);
        });
        waysFrom(7, NOT, NOT, NOT, 1, NOT, NOT, NOT, 0, 3);
        waysFrom(4, NOT, NOT, NOT, 1, 0, NOT, NOT, NOT, 3);
        waysFrom(2, NOT, NOT, 0, 1, NOT, NOT, NOT, NOT, 2);
    }

    private void waysOutward() {
        b.term(31, "FEWEST: by how few CALLS, each of any WORD of any SEGMENT that is there, one comes from ring a to ring b");
        // Outward to 6, and from there by a gate to 4, which leaves rings 0 to 4 where they are.
        two(667, 47);
        b.then(x -> x.set(1, 1, 1));
        waysFrom(2, NOT, NOT, 0, NOT, 2, NOT, 1, NOT, 2);
        waysFrom(7, NOT, NOT, NOT, NOT, 1, NOT, 2, 0, 4);
        waysFrom(5, NOT, NOT, NOT, NOT, 1, 0, 1, NOT, 4);
        waysFrom(6, NOT, NOT, NOT, NOT, 1, NOT, 0, NOT, 4);
        b.then(x -> x.set(0, 1, 24));
        waysFrom(7, NOT, NOT, NOT, NOT, 1, NOT, 1, 0, 4);
        // By its R1, not by its R2.
        two(267, 77);
        waysFrom(0, 0, NOT, 1, NOT, NOT, NOT, NOT, NOT, 0);
        waysFrom(3, NOT, NOT, NOT, 0, NOT, NOT, NOT, NOT, 3);
    }

    private void waysAsked() {
        b.promise(31, "NOT.");
        b.given(x -> {
            x.segment(0, 0, 1);
            x.brackets(0, 17);
            x.set(0, 1, 1);
        });
        waysFrom(0, 0, NOT, NOT, NOT, NOT, NOT, NOT, NOT, 0);
        waysFrom(1, NOT, 0, NOT, NOT, NOT, NOT, NOT, NOT, 1);
        for (int a = 2; a < 8; a++) {
            for (int to = 0; to < 8; to++) {
                b.keeps(to == a ? 0 : to == 1 ? 1 : NOT, "ways", a, to);
            }
            b.keeps(1, "ways", a, -1);
        }
    }

    private void waysBad() {
        b.promise(31, "BAD;");
        b.given(x -> x.segment(0, 0, 1));
        b.keepsBeyond(0, 7, BAD, 0, "ways", 0, 0);
        b.keepsBeyond(0, 7, BAD, 0, "ways", 0, -1);
        b.keepsBeyond(-1, 7, BAD, 1, "ways", 0, 0);
        b.keepsBeyond(-1, 7, BAD, 1, "ways", 7, 0);
        b.keeps(BAD, "ways", 8, 8);
        b.keeps(BAD, "ways", -1, -1);
    }

    private void stale() {
        b.promise(32, "STALE.");
        b.term(32, "STALE: how many SNAPPED ones there are of which a LOOKUP now tells another SEGMENT, or none.");
        b.given(x -> { });
        b.keeps(0, "stale");
        // Two SNAPPED ones to b, which RULES find in directory 1, one to itself; a LINK and a POINTER are none.
        b.given(x -> {
            x.directory(0);
            x.directory(0);
            x.segment(0, 0, 9);
            x.segment(1, 1, 9);
            x.rule(1);
            Boundaries.put(x, 0, 0, "take 4;take 8;take 6;halt;link b 0;link b 0;link a 7;num 1;link b 1");
            x.number(1, 0, 1);
            x.number(1, 1, 1);
            x.start(0, 0, 4);
            x.run(4);
            x.pointer(0, 7, 1400, false);
        });
        b.keeps(0, "stale");
        b.due(3, "count", 7);
        b.then(x -> x.rule(2));
        b.keeps(0, "stale");
        b.then(x -> x.segment(2, 1, 1));
        b.keeps(0, "stale");
        // Another one is found ahead of it; none is found; the same one is found again.
        b.then(x -> {
            x.rule(-1);
            x.rule(2);
        });
        b.keeps(2, "stale");
        b.then(x -> x.rule(-1));
        b.keeps(2, "stale");
        b.then(x -> x.rule(1));
        b.keeps(0, "stale");
        b.then(x -> x.segment(0, 1, 1));
        b.keeps(2, "stale");
        b.then(x -> x.drop(3));
        b.keeps(0, "stale");
        b.then(x -> x.rename(1, 2));
        b.keeps(2, "stale");
        b.then(x -> x.rename(0, 5));
        b.keeps(3, "stale");
        b.then(x -> x.rename(1, 0));
        b.keeps(3, "stale");
        b.due(3, "count", 7);
        b.then(x -> x.number(0, 8, 1));
        b.keeps(2, "stale");
        b.then(x -> x.unsnap(0));
        b.keeps(0, "stale");
        b.due(0, "count", 7);
        // That the WORD is gone, or can't be read, makes none stale; nor does a new SEGMENT of the same number.
        b.given(x -> {
            x.segment(0, 0, 2);
            x.segment(0, 1, 9);
            Boundaries.put(x, 0, 0, "take 1;link b 8");
            x.start(0, 0, 4);
            x.run(1);
            x.set(1, 0, 0);
            x.resize(1, 1);
        });
        b.keeps(0, "stale");
        b.then(x -> x.drop(1));
        b.keeps(1, "stale");
        b.then(x -> x.segment(0, 1, 1));
        b.keeps(0, "stale");
        b.then(x -> {
            x.drop(1);
            x.segment(0, 5, 1);
            x.segment(0, 1, 1);
        });
        b.due(2, "lookup", 0, 1);
        b.keeps(1, "stale");
        b.then(x -> x.drop(0));
        b.keeps(0, "stale");
    }

    private void staleEverywhere() {
        b.term(32, "STALE: how many SNAPPED ones there are of which a LOOKUP now tells another SEGMENT, or none.");
        // One in the first and in the last WORD of SEGMENT 15, and one in the first WORD of SEGMENT 0.
        b.given(x -> {
            for (int s = 0; s < 16; s++) {
                x.segment(0, s, 24);
            }
            x.link(15, 0, 9, 0);
            x.link(15, 23, 9, 0);
            x.link(0, 0, 9, 0);
            Boundaries.put(x, 15, 1, "take 0;take 23");
            Boundaries.put(x, 0, 1, "take 0");
            for (int w = 1; w <= 2; w++) {
                x.start(15, w, 4);
                x.run(1);
            }
            x.start(0, 1, 4);
            x.run(1);
        });
        b.word(15, 23, 5, 9400, 900);
        b.keeps(0, "stale");
        b.keeps(3, "count", 7);
        b.then(x -> x.drop(9));
        b.keeps(3, "stale");
        b.then(x -> x.resize(15, 23));
        b.keeps(2, "stale");
        b.keeps(2, "count", 7);
        b.due(1, "unsnap", 15);
        b.due(1, "unsnap", 0);
    }

    private static final int[] DRAWN_RRR = {444, 257, 7, 777, 77, 135, 0, 366, 226, 17, 467, 555, 123, 357, 47, 666};

    /** SEGMENTS 0 to 15, some of them without, with all kinds of brackets and of MAY. */
    private static void drawnOf(RingGates x) {
        for (int s = 0; s < 16; s++) {
            x.segment(0, s, 1);
            x.brackets(s, DRAWN_RRR[s]);
            x.set(s, 0, 7 - s % 8);
        }
        x.drop(5);
        x.drop(13);
        x.set(2, 0, 7);
        x.set(8, 0, 1);
        x.set(9, 0, 2);
        x.set(10, 0, 4);
    }

    private static int mayOf(int s) {
        int[] changed = {-1, -1, 7, -1, -1, 0, -1, -1, 1, 2, 4, -1, -1, 0, -1, -1};
        return changed[s] >= 0 ? changed[s] : 7 - s % 8;
    }

    /** By great numbers, so that a wrap-around of this test's own can't hide one of the class. */
    private static int drawnAsSaid(int seed, int n) {
        BigInteger all = BigInteger.ONE.shiftLeft(32);
        BigInteger z = BigInteger.valueOf(seed).mod(all);
        int granted = 0;
        for (int i = 0; i < n; i++) {
            z = z.multiply(BigInteger.valueOf(1103515245)).add(BigInteger.valueOf(12345)).mod(all);
            int ring = z.shiftRight(8).mod(BigInteger.valueOf(8)).intValue();
            int s = z.shiftRight(11).mod(BigInteger.valueOf(16)).intValue();
            int way = z.shiftRight(16).mod(BigInteger.valueOf(3)).intValue();
            int r1 = DRAWN_RRR[s] / 100;
            int r2 = DRAWN_RRR[s] / 10 % 10;
            boolean within = way == 0 ? ring <= r2 : way == 1 ? ring <= r1 : ring >= r1 && ring <= r2;
            granted += within && (mayOf(s) >> way & 1) == 1 ? 1 : 0;
        }
        return granted;
    }

    private void drawn() {
        b.promise(33, "DRAWN.");
        b.term(33, "DRAWN: n (1 .. 200) accesses by a SEED: z = z * 1103515245 + 12345 (an int; SEED at first) ahead of each: ring"
            + " (z >>> 8) & 7, SEGMENT (z >>> 11) & 15, READ, WRITE or GO by (z >>> 16) % 3: 0, 1, 2: how many are of a SEGMENT"
            + " that is there, and have ACCESS.");
        b.given(ThoughtBoundaries::drawnOf);
        int[] seeds = {0, 1, -1, 2, 12345, -12345, 65536, MIN, MIN + 1, MAX, MAX - 1, 987654321, -2000000000};
        for (int seed : seeds) {
            b.dueWithin(1, 200, n -> drawnAsSaid(seed, n), 1, "drawn", seed, 0);
            b.keeps(drawnAsSaid(seed, 200), "drawn", seed, 200);
        }
        // A single one, by many seeds: each ring, each SEGMENT and each way.
        b.dueWithin(-3000, 3000, seed -> drawnAsSaid(seed, 1), 0, "drawn", 0, 1);
        b.given(x -> { });
        b.dueWithin(1, 200, n -> 0, 1, "drawn", 7, 0);
        // By hand: SEED 0 makes 12345, which is ring 0, SEGMENT 6 and READ.
        b.given(x -> {
            for (int s = 0; s < 7; s++) {
                x.segment(0, s, 1);
            }
        });
        b.due(1, "drawn", 0, 1);
        b.then(x -> x.set(6, 0, 6));
        b.due(0, "drawn", 0, 1);
        b.then(x -> x.set(6, 0, 1));
        b.due(1, "drawn", 0, 1);
        b.then(x -> x.drop(6));
        b.due(0, "drawn", 0, 1);
    }

    private void drawnBad() {
        b.promise(33, "BAD.");
        b.given(ThoughtBoundaries::drawnOf);
        b.keepsBeyond(1, 200, BAD, 1, "drawn", 1, 1);
        b.keepsBeyond(1, 200, BAD, 1, "drawn", MIN, 1);
    }

    private void image() {
        b.promise(34, "AN IMAGE is kept: how many SEGMENTS.");
        for (int segments = 0; segments <= 16; segments++) {
            int n = segments;
            b.given(x -> {
                for (int s = 0; s < n; s++) {
                    x.segment(0, s, 1);
                }
            });
            b.due(n, "image");
            b.then(x -> {
                x.image();
                x.drop(0);
                x.segment(0, 20, 1);
                x.segment(0, 21, 1);
            });
            b.due(n, "back");
        }
        // A later one is kept in its stead; what it was kept of is as it was.
        b.given(ThoughtBoundaries::rich);
        b.due(4, "image");
        b.same("image() twice", x -> x.image(), x -> {
            x.image();
            x.image();
        });
        b.same("a second image()", x -> {
            x.drop(1);
            x.image();
        }, x -> {
            x.image();
            x.drop(1);
            x.image();
        });
        b.same("image(), back()", x -> x.image(), x -> {
            x.image();
            x.back();
        });
    }

    /** Something of all that an IMAGE keeps: FRAMES inward and OUTWARD, copies that are set, SNAPPED LINKS, CELLS. */
    private static void rich(RingGates x) {
        x.directory(0);
        x.directory(1);
        x.quota(1, 20);
        x.quota(2, 6);
        x.rule(2);
        x.rule(0);
        x.segment(0, 0, 24);
        x.segment(1, 1, 10);
        x.segment(2, 2, 17);
        x.segment(0, 3, 1);
        x.drop(3);
        x.segment(2, 25, 8);
        x.brackets(0, 157);
        x.brackets(1, 567);
        x.brackets(2, 137);
        x.set(1, 1, 4);
        x.set(2, 1, 9);
        x.set(2, 0, 7);
        Boundaries.put(x, 0, 0, "call 1 3;ptr 0 1 0;num 10;num 20;link c 9;halt");
        Boundaries.put(x, 1, 0, "set 0;set 2;call 3 1;link c 0;num 4");
        Boundaries.put(x, 2, 0, "arg 0;set 0;back;none;none;none;ind 1 2 3;ptr 7 15 23;link z 23;num 90");
        x.start(0, 0, 1);
        x.run(4);
    }

    private interface Named {
        String name();

        Whole.Calls calls();
    }

    private record Change(String name, Whole.Calls calls) implements Named {
    }

    private static Change[] changes() {
        return new Change[] {
            new Change("directory", x -> x.directory(2)),
            new Change("segment", x -> x.segment(0, 9, 24)),
            new Change("segment in a new directory", x -> x.segment(x.directory(0), 9, 24)),
            new Change("drop", x -> x.drop(0)),
            new Change("drop all", x -> {
                for (int s = 0; s < 4; s++) {
                    x.drop(s);
                }
            }),
            new Change("drop, segment", x -> {
                x.drop(1);
                x.segment(0, 9, 24);
                x.number(1, 23, 5);
            }),
            new Change("resize", x -> x.resize(0, 2)),
            new Change("resize, longer", x -> x.resize(1, 24)),
            new Change("rename", x -> x.rename(2, 20)),
            new Change("brackets", x -> x.brackets(0, 777)),
            new Change("MAY", x -> x.set(0, 0, 0)),
            new Change("GATES", x -> x.set(1, 1, 0)),
            new Change("quota", x -> x.quota(1, -3)),
            new Change("a CELL more", x -> x.quota(x.directory(2), 1)),
            new Change("rule", x -> x.rule(1)),
            new Change("no rules", x -> x.rule(-1)),
            new Change("other rules", x -> {
                x.rule(-1);
                x.rule(1);
                x.rule(1);
            }),
            new Change("number", x -> x.number(0, 0, 1)),
            new Change("pointer", x -> x.pointer(0, 23, 15723, true)),
            new Change("link", x -> x.link(0, 4, 1, 1)),
            new Change("act", x -> x.act(0, 4, 1, 1, 1)),
            new Change("unsnap", x -> x.unsnap(1)),
            new Change("load", x -> {
                Checks.feed(x, "num 1;num 2");
                x.load(0, 20);
            }),
            new Change("start", x -> x.start(15, 23, 7)),
            new Change("start where it is", x -> x.start(x.machine(0), x.machine(1), x.machine(2))),
            new Change("all", x -> {
                x.start(1, 1, 5);
                x.drop(0);
                x.drop(2);
                x.segment(1, 20, 24);
                x.directory(1);
                x.rule(1);
                x.brackets(1, 77);
                x.act(1, 1, 0, 0, 0);
            }),
        };
    }

    private void back() {
        b.promise(35, "STATE: there is none.");
        b.given(x -> { });
        b.keeps(STATE, "back");
        b.given(ThoughtBoundaries::rich);
        b.keeps(STATE, "back");
        b.machine(2, 0, 3, 0);
        b.promise(35, "It is laid back: how many SEGMENTS");
        b.term(35, "AN IMAGE keeps DIRECTORIES, SEGMENTS and all that is theirs, QUOTAS, RULES, THE MACHINE, how many SEGMENTS were"
            + " made.");
        b.then(x -> x.image());
        b.due(4, "back");
        for (Change change : changes()) {
            b.same("back() behind " + change.name(), x -> { }, x -> {
                change.calls().on(x);
                x.back();
            });
            b.same("back() twice behind " + change.name(), x -> { }, x -> {
                x.back();
                change.calls().on(x);
                x.back();
            });
        }
        // What the machine did meanwhile; WHY would be told, so it is 0 both times.
        b.same("back() behind a run", x -> { }, x -> {
            x.run(1);
            x.back();
        });
        b.same("back() behind a run in thought", x -> { }, x -> {
            x.dry(200, 0);
            x.back();
        });
        b.then(x -> {
            x.directory(0);
            x.drop(3);
            x.drop(1);
        });
        b.due(4, "back");
        b.due(2, "image");
    }

    private void backLeaves() {
        b.promise(35, "(WHY, THE TAPE stay).");
        b.given(x -> {
            x.segment(0, 0, 3);
            Boundaries.put(x, 0, 0, "halt;num 1");
            Checks.feed(x, "num 4");
            x.image();
            x.feed('2');
            x.run(1);
        });
        b.due(1, "why");
        b.due(6, "count", 3);
        b.then(x -> x.back());
        b.due(1, "why");
        b.due(6, "count", 3);
        b.due(1, "load", 0, 2);
        b.then(x -> x.load(0, 2));
        b.word(0, 2, 1, 42, 0);
        b.then(x -> x.back());
        b.due(0, "count", 3);
        b.due(-100, "load", 0, 2);
        b.word(0, 2, 0, 0, 0);
        b.then(x -> {
            x.start(0, 1, 4);
            x.run(1);
            x.back();
        });
        b.due(-24, "why");
        b.machine(0, 0, 4, 0);
        // The WHY and THE TAPE that were when it was kept are not laid back, either.
        b.given(x -> {
            x.segment(0, 0, 3);
            Boundaries.put(x, 0, 0, "halt;test 1");
            x.run(1);
            Checks.feed(x, "none");
            x.image();
            x.start(0, 1, 4);
            x.run(1);
            x.load(0, 0);
            x.back();
        });
        b.due(0, "why");
        b.due(0, "count", 3);
        b.word(0, 0, 6, 0, 0);
    }

    private void anotherObject() {
        b.term(34, "All memory is the class's own.");
        b.given(ThoughtBoundaries::rich);
        b.then(x -> {
            x.image();
            Checks.feed(x, "num 1");
        });
        b.same("calls of another object", x -> { }, x -> {
            RingGates y = new RingGates();
            allFrames(y);
            y.directory(0);
            y.rule(1);
            y.quota(1, 3);
            Checks.feed(y, "num 7;nope");
            y.image();
            y.drop(0);
            y.run(3);
            y.back();
            y.dry(200, 0);
            y.load(0, 0);
        });
        b.term(3, "What is answered so changes nothing.");
        b.keeps(BAD, "segment", 3, 0, 1);
        b.keeps(NOT, "lookup", 0, 24);
        b.keeps(STATE, "segment", 0, 0, 1);
        b.keeps(Boundaries.NO_PLACE, "number", 0, 24, 1);
        b.keeps(Boundaries.NO_SIZE, "resize", 0, -1);
        b.keeps(VOID, "word", 0, 24, 0);
        b.given(x -> {
            for (int d = 0; d < 7; d++) {
                x.directory(0);
            }
        });
        b.keeps(Boundaries.FULL, "directory", 0);
    }

    /** The 512th call is answered as the first one is, also behind 511 of the dearest. */
    private void lastCall() {
        b.term(36, "An object is used for at most 512 calls after it has been made; what later calls answer is free.");
        b.given(x -> {
            for (int i = 0; i < 255; i++) {
                x.segment(0, i % 26, 24);
                x.drop(0);
            }
            x.segment(0, 3, 5);
        });
        b.due(256, "count", 8);
        b.due(256, "of", 0, 8);
        b.due(1, "segment", 0, 4, 24);
        b.due(1, "drop", 0);
        b.given(x -> {
            x.segment(0, 0, 3);
            Boundaries.put(x, 0, 0, "add 2;go 0;num 1");
            x.start(0, 0, 4);
            for (int i = 5; i < 510; i++) {
                switch (i % 4) {
                    case 0 -> x.image();
                    case 1 -> x.back();
                    case 2 -> x.run(200);
                    default -> x.dry(200, 4);
                }
            }
            x.start(0, 0, 4);
        });
        b.due(200, "run", 200);
        b.due(200, "dry", 200, 0);
        b.due(100, "dry", 200, 2);
        b.due(1, "back");
        b.given(x -> {
            x.segment(0, 0, 24);
            for (int i = 1; i < 511; i++) {
                x.feed(i < 391 ? 256 : "none;".charAt(i % 5 == 0 ? 4 : i % 5 - 1));
            }
        });
        b.due(Boundaries.FULL, "feed", 'n');
        b.due(-220, "load", 0, 0);
    }

    private void countSmall() {
        b.promise(36, "How many: 0 DIRECTORIES, 1 SEGMENTS, 2 RULES, 3 bytes on THE TAPE, 4 CELLS, 5 QUOTA of all, together,"
            + " 6 RECORDS taken, 7 SNAPPED ones, 8 SEGMENTS that were made.");
        b.given(x -> { });
        int[] first = {1, 0, 0, 0, 1, 64, 0, 0, 0};
        for (int what = 0; what < 9; what++) {
            b.keeps(first[what], "count", what);
        }
        b.given(ThoughtBoundaries::rich);
        b.then(x -> Checks.feed(x, "abc"));
        int[] rich = {3, 4, 2, 3, 3, 64, 9, 2, 5};
        for (int what = 0; what < 9; what++) {
            b.keeps(rich[what], "count", what);
        }
        b.promise(36, "BAD.");
        b.keepsBeyond(0, 8, BAD, 0, "count", 0);
    }

    private void countGreat() {
        b.promise(36, "How many: 0 DIRECTORIES, 1 SEGMENTS, 2 RULES, 3 bytes on THE TAPE, 4 CELLS, 5 QUOTA of all, together,"
            + " 6 RECORDS taken, 7 SNAPPED ones, 8 SEGMENTS that were made.");
        // As many of each as there may be; SEGMENTS are made, and go, any number of times.
        b.given(x -> {
            for (int d = 1; d < 8; d++) {
                x.directory(0);
                x.quota(d, 1);
            }
            for (int i = 0; i < 30; i++) {
                x.segment(0, 0, 1);
                x.drop(0);
            }
            for (int s = 0; s < 16; s++) {
                x.segment(0, s, 24);
            }
            for (int r = 0; r < 4; r++) {
                x.rule(r);
            }
            for (int i = 0; i < 120; i++) {
                x.feed(i);
            }
        });
        int[] due = {8, 16, 4, 120, 8, 64, 48, 0, 46};
        for (int what = 0; what < 9; what++) {
            b.keeps(due[what], "count", what);
        }
        b.due(46, "of", 15, 8);
        b.due(31, "of", 0, 8);
    }
}
