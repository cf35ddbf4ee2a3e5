/** The boundaries of promises 1 to 13, and of the Terms' first part. */
final class DirectoryBoundaries {
    private static final int BAD = Boundaries.BAD, NOT = Boundaries.NOT, FULL = Boundaries.FULL;
    private static final int STATE = Boundaries.STATE, NO_SIZE = Boundaries.NO_SIZE, VOID = Boundaries.VOID;
    private static final int MIN = Boundaries.MIN, MAX = Boundaries.MAX;

    private final Boundaries b;

    DirectoryBoundaries(Boundaries b) {
        this.b = b;
    }

    void all() {
        newObject();
        constants();
        directory();
        directoriesFull();
        segmentNumbers();
        segmentAtFirst();
        segmentSizes();
        segmentBad();
        segmentFull();
        segmentNames();
        segmentQuota();
        drop();
        dropLeaves();
        resize();
        resizeWordsAndGates();
        resizeRefused();
        resizeQuota();
        rename();
        brackets();
        setMay();
        setGates();
        quotaBad();
        quotaOfRoot();
        quotaOfCells();
        quotaUsed();
        quotaOfNestedCells();
        cell();
        of();
        records();
        rule();
        lookup();
    }

    private static void directories(RingGates x, int... aboves) {
        for (int above : aboves) {
            x.directory(above);
        }
    }

    private static void segments(RingGates x, int n, int length) {
        for (int s = 0; s < n; s++) {
            x.segment(0, s, length);
        }
    }

    private void newObject() {
        b.given(x -> { });
        b.promise(1, "THE ROOT alone, no SEGMENTS;");
        b.keeps(1, "count", 0);
        b.keeps(NOT, "cell", 0, 0);
        b.keeps(0, "cell", 0, 3);
        b.keeps(BAD, "cell", 1, 0);
        b.keeps(0, "count", 1);
        b.keeps(0, "cell", 0, 4);
        b.keeps(0, "count", 8);
        b.dueWithin(0, 15, s -> BAD, 0, "of", 0, 2);
        b.dueWithin(0, 15, s -> VOID, 0, "word", 0, 0, 0);
        b.due(0, "segment", 0, 0, 1);
        b.promise(1, "THE MACHINE AT WORD 0 of SEGMENT 0, in RING 4, A 0.");
        b.machine(0, 0, 4, 0);
        b.dueWithin(10, 17, what -> 0, 0, "machine", 0);
        b.faults(-20);
        b.then(x -> x.segment(0, 0, 1));
        b.faults(-23);
        b.then(x -> x.act(0, 0, 0, 0, 0));
        b.runs(1, 1, 1);
        b.given(x -> { });
        b.term(1, "none at first) that has one.");
        b.keeps(0, "count", 2);
        b.due(1, "rule", 0);
        b.term(9, "THE ROOT has 64 at first.");
        b.keeps(64, "cell", 0, 1);
        b.keeps(64, "count", 5);
        b.keeps(0, "cell", 0, 2);
        b.keeps(0, "count", 6);
        b.keeps(1, "count", 4);
    }

    private void constants() {
        b.term(3, "Answers, of several the one named first: BAD (-1): no such number, or it is not as said;");
        b.due(RingGates.BAD, "of", 0, 0);
        b.due(-1, "of", 0, 0);
        b.term(10, "NOT (-2): as told;");
        b.due(RingGates.NOT, "cell", 0, 0);
        b.due(-2, "cell", 0, 0);
        b.term(2, "FULL (-3);");
        b.given(x -> directories(x, 0, 0, 0, 0, 0, 0, 0));
        b.due(RingGates.FULL, "directory", 0);
        b.due(-3, "directory", 0);
        b.term(3, "STATE (-5): as told;");
        b.given(x -> x.segment(0, 0, 1));
        b.due(RingGates.STATE, "segment", 0, 0, 1);
        b.due(-5, "segment", 0, 0, 1);
        b.term(14, "-13 a place that is not there;");
        b.due(-13, "number", 0, 1, 0);
        b.term(3, "-14 a size below 0.");
        b.due(-14, "segment", 0, 1, -1);
        b.due(-14, "resize", 0, -1);
        b.term(18, "VOID is -2000000000.");
        b.due(RingGates.VOID, "word", 0, 1, 0);
        b.due(-2000000000, "word", 0, 1, 0);
    }

    private void directory() {
        b.promise(2, "A DIRECTORY in another one: its number.");
        b.term(2, "DIRECTORIES 0 .. 7: 0 is THE ROOT; others come as they are made, each in one that is there (ABOVE it).");
        b.given(x -> { });
        for (int made = 1; made < 8; made++) {
            int last = made - 1;
            b.due(made, "directory", 0);
            b.due(made, "directory", last);
            b.keeps(BAD, "directory", made);
            b.then(x -> x.directory(last));
            b.due(last, "cell", made, 0);
            b.due(0, "cell", made, 1);
            b.due(0, "cell", made, 3);
            b.due(made + 1, "count", 0);
            b.due(BAD, "cell", made + 1, 0);
        }
        b.due(1, "count", 4);
        b.given(x -> directories(x, 0, 1, 0, 3, 2, 5, 0));
        int[] aboves = {NOT, 0, 1, 0, 3, 2, 5, 0};
        b.dueWithin(0, 7, d -> aboves[d], 0, "cell", 0, 0);
        b.promise(2, "BAD;");
        b.given(x -> { });
        b.keepsBeyond(0, 0, BAD, 0, "directory", 0);
        b.given(x -> directories(x, 0, 0, 0));
        b.keepsBeyond(0, 3, BAD, 0, "directory", 0);
    }

    private void directoriesFull() {
        b.promise(2, "FULL: 8.");
        b.given(x -> directories(x, 0, 1, 2, 3, 4, 5));
        b.due(7, "directory", 6);
        b.then(x -> x.directory(6));
        for (int above = 0; above < 8; above++) {
            b.keeps(FULL, "directory", above);
        }
        b.keeps(8, "count", 0);
        b.term(2, "Answers, of several the one named first:");
        b.keepsBeyond(0, 7, BAD, 0, "directory", 0);
    }

    private void segmentNumbers() {
        b.promise(3, "A SEGMENT is made: its number.");
        b.term(3, "SEGMENTS 0 .. 15 (a new one takes the least number that none has) are each in a DIRECTORY,");
        b.given(x -> directories(x, 0, 0));
        for (int made = 0; made < 16; made++) {
            int s = made;
            b.due(s, "segment", s % 3, s, 1);
            b.then(x -> x.segment(s % 3, s, 1));
            b.due(s % 3, "of", s, 0);
            b.due(s, "of", s, 1);
            b.due(s + 1, "count", 1);
        }
        b.then(x -> x.drop(15));
        b.due(15, "segment", 0, 20, 1);
        b.then(x -> x.drop(9));
        b.due(9, "segment", 0, 20, 1);
        b.then(x -> x.drop(0));
        b.due(0, "segment", 0, 20, 1);
        b.then(x -> x.segment(0, 20, 1));
        b.due(9, "segment", 0, 21, 1);
        b.then(x -> x.segment(0, 21, 1));
        b.due(15, "segment", 0, 22, 1);
        b.term(3, "a SERIAL (how many were made till it, it too),");
        b.due(17, "of", 0, 8);
        b.due(18, "of", 9, 8);
        b.due(2, "of", 1, 8);
        b.due(15, "of", 14, 8);
        b.due(18, "count", 8);
        // One that is refused was not made.
        b.given(x -> {
            x.segment(0, 0, 1);
            x.segment(0, 0, 1);
            x.segment(0, 26, 1);
            x.segment(0, 1, 25);
            x.segment(0, 1, -1);
            x.segment(1, 1, 1);
            x.drop(0);
            x.segment(0, 7, 1);
        });
        b.due(2, "of", 0, 8);
        b.due(2, "count", 8);
    }

    private void segmentAtFirst() {
        b.given(x -> x.segment(0, 0, 24));
        b.term(3, "brackets R1, R2, R3 (0 .. 7, none less than the one ahead; 4, 4, 4 at first),");
        b.dueWithin(3, 5, what -> 4, 1, "of", 0, 0);
        b.due(444, "brackets", 0, 0);
        b.term(3, "MAY (bits: 1 READ, 2 WRITE, 4 GO; 7 at first),");
        b.due(7, "of", 0, 6);
        b.due(7, "access", 0, 4);
        b.term(3, "GATES (0 .. LENGTH; 0 at first),");
        b.due(0, "of", 0, 7);
        b.term(3, "and WORDS 0 .. LENGTH less 1: each MISSING (at first),");
        for (int w = 0; w < 24; w++) {
            b.word(0, w, 0, 0, 0);
        }
        b.word(0, 24, VOID, VOID, VOID);
        b.word(0, -1, VOID, VOID, VOID);
        // All is so of one that takes the number of one that is gone, too.
        b.given(x -> {
            x.directory(0);
            x.segment(0, 0, 24);
            x.brackets(0, 17);
            x.set(0, 0, 2);
            x.set(0, 1, 24);
            x.start(0, 0, 1);
            Boundaries.put(x, 0, 0, "num 5;ptr 1 2 3;ind 1 2 3;link a 3;halt;take 3");
            x.drop(0);
            x.segment(1, 3, 6);
        });
        int[] anew = {1, 3, 6, 4, 4, 4, 7, 0, 2, 1};
        b.dueWithin(0, 9, what -> anew[what], 1, "of", 0, 0);
        for (int w = 0; w < 6; w++) {
            b.word(0, w, 0, 0, 0);
        }
        b.then(x -> x.resize(0, 24));
        b.dueWithin(0, 23, w -> 0, 1, "word", 0, 0, 0);
    }

    private void segmentSizes() {
        b.term(3, "a LENGTH (1 .. 24),");
        b.given(x -> { });
        b.dueWithin(1, 24, length -> 0, 2, "segment", 0, 0, 0);
        for (int length = 1; length <= 24; length++) {
            int n = length;
            b.given(x -> x.segment(0, 0, n));
            b.due(n, "of", 0, 2);
            b.due(0, "word", 0, n - 1, 0);
            b.due(VOID, "word", 0, n, 0);
        }
        b.promise(3, "-14: LENGTH below 0;");
        b.given(x -> x.segment(0, 0, 1));
        int[] below = {-1, -2, -8, -24, -25, MIN, MIN + 1, MIN + 24};
        for (int length : below) {
            b.keeps(NO_SIZE, "segment", 0, 1, length);
        }
        // It is named first: whatever else is amiss.
        b.keeps(NO_SIZE, "segment", 1, 1, -1);
        b.keeps(NO_SIZE, "segment", -1, 1, MIN);
        b.keeps(NO_SIZE, "segment", 0, 26, -1);
        b.keeps(NO_SIZE, "segment", 0, -1, -1);
        b.keeps(NO_SIZE, "segment", 0, 0, -1);
        b.given(x -> segments(x, 16, 1));
        b.keeps(NO_SIZE, "segment", 0, 20, -1);
    }

    private void segmentBad() {
        b.promise(3, "BAD (DIRECTORY, NAME, LENGTH 0, above 24);");
        b.given(x -> {
            directories(x, 0, 1);
            x.segment(2, 3, 1);
        });
        b.keepsBeyond(0, 2, BAD, 0, "segment", 0, 3, 1);
        b.keepsBeyond(0, 25, BAD, 1, "segment", 0, 0, 1);
        b.keeps(BAD, "segment", 0, 0, 0);
        b.keeps(BAD, "segment", 0, 0, 25);
        b.keeps(BAD, "segment", 0, 0, 26);
        b.keeps(BAD, "segment", 0, 0, 32);
        b.keeps(BAD, "segment", 0, 0, 256);
        b.keeps(BAD, "segment", 0, 0, 65537);
        b.keeps(BAD, "segment", 0, 0, MAX - 6);
        b.keeps(BAD, "segment", 0, 0, MAX);
        b.dueWithin(0, 2, d -> 1, 0, "segment", 0, 0, 24);
        b.dueWithin(0, 25, name -> 1, 1, "segment", 0, 0, 24);
        // Named ahead of STATE: the NAME is there.
        b.keeps(BAD, "segment", 2, 3, 0);
        b.keeps(BAD, "segment", 2, 3, 25);
    }

    private void segmentFull() {
        b.promise(3, "FULL: 16;");
        b.given(x -> segments(x, 15, 24));
        b.due(15, "segment", 0, 15, 24);
        b.then(x -> x.segment(0, 15, 24));
        b.keeps(FULL, "segment", 0, 16, 1);
        b.keeps(FULL, "segment", 0, 25, 24);
        // Ahead of STATE: the NAME is there, or QUOTA.
        b.keeps(FULL, "segment", 0, 0, 1);
        b.then(x -> {
            x.directory(0);
            x.quota(1, 16);
        });
        b.due(48, "cell", 0, 1);
        b.due(48, "cell", 0, 2);
        b.keeps(FULL, "segment", 0, 16, 1);
        b.keeps(FULL, "segment", 1, 16, 1);
        // Behind BAD.
        b.keeps(BAD, "segment", 2, 16, 1);
        b.keeps(BAD, "segment", 0, 26, 1);
        b.keeps(BAD, "segment", 0, 16, 0);
        b.keeps(BAD, "segment", 0, 16, 25);
        b.then(x -> x.drop(7));
        b.due(7, "segment", 0, 16, 24);
        b.keeps(STATE, "segment", 0, 6, 1);
    }

    private void segmentNames() {
        b.promise(3, "STATE: the NAME is there, QUOTA.");
        b.term(3, "with a NAME (0 .. 25; of two SEGMENTS of a DIRECTORY unlike),");
        b.given(x -> {
            directories(x, 0, 1);
            x.segment(0, 0, 1);
            x.segment(0, 25, 1);
            x.segment(1, 7, 1);
        });
        b.keeps(STATE, "segment", 0, 0, 1);
        b.keeps(STATE, "segment", 0, 25, 24);
        b.keeps(STATE, "segment", 1, 7, 1);
        b.due(3, "segment", 0, 7, 1);
        b.due(3, "segment", 1, 0, 1);
        b.due(3, "segment", 2, 7, 1);
        b.due(3, "segment", 0, 24, 1);
        b.then(x -> x.rename(1, 24));
        b.due(3, "segment", 0, 25, 1);
        b.keeps(STATE, "segment", 0, 24, 1);
        b.then(x -> x.drop(1));
        b.due(1, "segment", 0, 24, 1);
        b.keeps(STATE, "segment", 0, 0, 1);
    }

    private void segmentQuota() {
        b.term(3, "Likewise STATE, if a SEGMENT made, or made longer, would bring USED above QUOTA.");
        // THE ROOT has 2, directory 1 has 3, directory 2 lies in it, directory 3 in THE ROOT, 4 in 2 has 59.
        b.given(x -> {
            directories(x, 0, 1, 0, 2);
            x.quota(1, 62);
            x.quota(4, 59);
        });
        b.due(2, "cell", 0, 1);
        b.due(3, "cell", 1, 1);
        b.dueWithin(1, 16, length -> 0, 2, "segment", 0, 0, 0);
        b.keeps(STATE, "segment", 0, 0, 17);
        b.keeps(STATE, "segment", 0, 0, 24);
        b.dueWithin(1, 16, length -> 0, 2, "segment", 3, 0, 0);
        b.keeps(STATE, "segment", 3, 0, 17);
        b.dueWithin(1, 24, length -> 0, 2, "segment", 1, 0, 0);
        b.then(x -> x.segment(1, 0, 1));
        b.dueWithin(1, 16, length -> 1, 2, "segment", 2, 0, 0);
        b.keeps(STATE, "segment", 2, 0, 17);
        b.then(x -> x.segment(2, 0, 16));
        b.keeps(STATE, "segment", 1, 1, 1);
        b.keeps(STATE, "segment", 2, 1, 1);
        b.due(2, "segment", 0, 0, 16);
        b.due(2, "segment", 4, 0, 24);
        b.then(x -> x.drop(0));
        b.dueWithin(1, 8, length -> 0, 2, "segment", 1, 1, 0);
        b.keeps(STATE, "segment", 1, 1, 9);
        b.then(x -> {
            x.segment(0, 0, 8);
            x.segment(3, 0, 8);
        });
        b.keeps(STATE, "segment", 0, 1, 1);
        b.keeps(STATE, "segment", 3, 1, 1);
    }

    private void drop() {
        b.promise(4, "A SEGMENT goes: how many RECORDS it took.");
        for (int length = 1; length <= 24; length++) {
            int n = length;
            b.given(x -> x.segment(0, 0, n));
            b.due(n <= 8 ? 1 : n <= 16 ? 2 : 3, "drop", 0);
        }
        b.given(x -> segments(x, 16, 9));
        b.dueWithin(0, 15, s -> 2, 0, "drop", 0);
        b.then(x -> x.resize(15, 8));
        b.due(1, "drop", 15);
        b.then(x -> x.resize(15, 17));
        b.due(3, "drop", 15);
        b.promise(4, "BAD.");
        b.keepsBeyond(0, 15, BAD, 0, "drop", 0);
        b.given(x -> segments(x, 3, 1));
        b.keepsBeyond(0, 2, BAD, 0, "drop", 0);
        b.then(x -> x.drop(1));
        b.keeps(BAD, "drop", 1);
        b.given(x -> { });
        b.keeps(BAD, "drop", 0);
    }

    private void dropLeaves() {
        b.promise(4, "A SEGMENT goes:");
        b.given(x -> {
            x.segment(0, 0, 24);
            x.segment(0, 1, 9);
            Boundaries.put(x, 0, 0, "take 1;link b 1;call 3 0;ptr 4 1 2");
            x.number(1, 1, 9);
            x.start(0, 0, 4);
            x.run(1);
            x.start(0, 2, 4);
            x.run(1);
        });
        b.due(1, "count", 7);
        b.then(x -> x.drop(0));
        b.dueWithin(0, 9, what -> BAD, 1, "of", 0, 0);
        b.due(VOID, "word", 0, 0, 0);
        b.due(0, "count", 7);
        b.due(0, "stale");
        b.due(2, "count", 6);
        b.due(2, "cell", 0, 2);
        b.due(1, "cell", 0, 4);
        b.due(2, "count", 8);
        b.due(NOT, "lookup", 1, 0);
        b.machine(1, 2, 4, 0);
        b.frame(4, 0, 0, 3, 4, 0, 0);
        b.due(0, "segment", 0, 0, 1);
        b.due(-20, "enters", 0, 0, 4);
        b.then(x -> x.drop(1));
        b.faults(-20);
        b.due(0, "count", 6);
    }

    private void resize() {
        b.promise(5, "A SEGMENT is made longer, or shorter");
        int[] lengths = {1, 2, 7, 8, 9, 16, 17, 23, 24};
        for (int length : lengths) {
            b.given(x -> x.segment(0, 0, length));
            b.promise(5, "what LENGTH was.");
            b.dueWithin(1, 24, n -> length, 1, "resize", 0, 0);
            b.promise(5, "BAD;");
            b.keeps(BAD, "resize", 0, 0);
            b.keeps(BAD, "resize", 0, 25);
            b.promise(5, "-14;");
            b.keeps(NO_SIZE, "resize", 0, -1);
            b.then(x -> x.resize(0, 25 - length));
            b.due(25 - length, "of", 0, 2);
            b.due(0, "word", 0, 24 - length, 0);
            b.due(VOID, "word", 0, 25 - length, 0);
        }
    }

    private void resizeWordsAndGates() {
        b.promise(5, "(WORDS beyond go; GATES are LENGTH at most):");
        for (int length = 1; length < 24; length++) {
            int n = length;
            b.given(x -> {
                x.segment(0, 0, 24);
                for (int w = 0; w < 24; w++) {
                    x.number(0, w, 100 + w);
                }
                x.resize(0, n);
            });
            b.word(0, n - 1, 1, 99 + n, 0);
            b.word(0, 0, 1, 100, 0);
            b.word(0, n, VOID, VOID, VOID);
            b.then(x -> x.resize(0, 24));
            b.word(0, n - 1, 1, 99 + n, 0);
            b.word(0, n, 0, 0, 0);
            b.word(0, 23, 0, 0, 0);
        }
        b.given(x -> {
            x.segment(0, 0, 24);
            x.set(0, 1, 5);
        });
        int[] lengths = {24, 6, 5, 4, 1};
        int[] gates = {5, 5, 5, 4, 1};
        for (int i = 0; i < lengths.length; i++) {
            int n = lengths[i];
            b.then(x -> x.resize(0, n));
            b.due(gates[i], "of", 0, 7);
        }
        b.then(x -> x.resize(0, 24));
        b.due(1, "of", 0, 7);
        // A SNAPPED one beyond goes as well.
        b.given(x -> {
            x.segment(0, 0, 9);
            Boundaries.put(x, 0, 0, "take 8;none;none;none;none;none;none;none;link a 0");
            x.start(0, 0, 4);
            x.run(1);
        });
        b.word(0, 8, 5, 400, 0);
        b.due(1, "count", 7);
        b.then(x -> x.resize(0, 8));
        b.due(0, "count", 7);
        b.then(x -> x.resize(0, 9));
        b.word(0, 8, 0, 0, 0);
        b.due(0, "count", 7);
    }

    private void resizeRefused() {
        b.promise(5, "-14;");
        b.given(x -> {
            segments(x, 3, 9);
            x.set(1, 1, 9);
            x.number(1, 8, 7);
        });
        int[] below = {-1, -8, -9, -25, MIN, MIN + 1, MIN + 9};
        for (int length : below) {
            b.keeps(NO_SIZE, "resize", 1, length);
        }
        // Ahead of BAD: no such SEGMENT.
        b.keeps(NO_SIZE, "resize", 3, -1);
        b.keeps(NO_SIZE, "resize", -1, -1);
        b.keeps(NO_SIZE, "resize", 16, MIN);
        b.promise(5, "BAD;");
        int[] bad = {0, 25, 26, 32, 33, 256, 65545, MAX, MAX - 7};
        for (int length : bad) {
            b.keeps(BAD, "resize", 1, length);
        }
        b.keepsBeyond(0, 2, BAD, 0, "resize", 0, 1);
        b.keepsBeyond(0, 2, BAD, 0, "resize", 0, 9);
        b.keepsBeyond(0, 2, BAD, 0, "resize", 0, 24);
    }

    private void resizeQuota() {
        b.promise(5, "STATE: QUOTA.");
        // Directory 1 has 4, of which 1 + 2 are used, by one in it, and by one in directory 2 below it.
        b.given(x -> {
            directories(x, 0, 1);
            x.quota(1, 4);
            x.segment(1, 0, 8);
            x.segment(2, 0, 9);
            x.set(0, 1, 8);
            x.number(0, 7, 3);
        });
        b.dueWithin(1, 16, n -> 8, 1, "resize", 0, 0);
        b.dueWithin(1, 24, n -> 9, 1, "resize", 1, 0);
        b.keeps(STATE, "resize", 0, 17);
        b.keeps(STATE, "resize", 0, 24);
        // BAD is named ahead of it.
        b.keeps(BAD, "resize", 0, 25);
        b.then(x -> x.resize(1, 24));
        b.keeps(STATE, "resize", 0, 9);
        b.keeps(STATE, "resize", 0, 16);
        // As many RECORDS, or fewer, even where all are used.
        b.dueWithin(1, 8, n -> 8, 1, "resize", 0, 0);
        b.dueWithin(1, 24, n -> 24, 1, "resize", 1, 0);
        b.then(x -> x.resize(1, 16));
        b.due(8, "resize", 0, 16);
        b.keeps(STATE, "resize", 0, 17);
        b.then(x -> x.resize(0, 16));
        b.keeps(STATE, "resize", 1, 17);
        b.then(x -> x.drop(1));
        b.due(16, "resize", 0, 24);
    }

    private void rename() {
        b.promise(6, "A SEGMENT has another NAME: what it was.");
        b.given(x -> {
            directories(x, 0);
            x.segment(0, 0, 1);
            x.segment(0, 25, 1);
            x.segment(1, 7, 1);
            x.segment(1, 8, 1);
        });
        b.due(0, "rename", 0, 24);
        b.due(25, "rename", 1, 1);
        b.due(8, "rename", 3, 0);
        b.due(8, "rename", 3, 25);
        b.promise(6, "BAD;");
        b.keepsBeyond(0, 25, BAD, 1, "rename", 0, 0);
        b.keepsBeyond(0, 3, BAD, 0, "rename", 0, 5);
        b.promise(6, "STATE: another one of its DIRECTORY has it.");
        b.keeps(STATE, "rename", 0, 25);
        b.keeps(STATE, "rename", 1, 0);
        b.keeps(STATE, "rename", 2, 8);
        b.keeps(STATE, "rename", 3, 7);
        // Its own is not another one's; nor is one of another DIRECTORY its own DIRECTORY's.
        b.keeps(0, "rename", 0, 0);
        b.keeps(25, "rename", 1, 25);
        b.keeps(8, "rename", 3, 8);
        b.due(0, "rename", 0, 7);
        b.due(7, "rename", 2, 0);
        b.then(x -> x.rename(0, 24));
        b.due(24, "of", 0, 1);
        b.due(25, "rename", 1, 0);
        b.keeps(STATE, "rename", 1, 24);
        b.then(x -> x.drop(0));
        b.due(25, "rename", 1, 24);
        b.keeps(BAD, "rename", 0, 24);
    }

    private static boolean isBrackets(int rrr) {
        int r1 = rrr / 100;
        int r2 = rrr / 10 % 10;
        int r3 = rrr % 10;
        return rrr >= 0 && r1 <= r2 && r2 <= r3 && r3 <= 7;
    }

    private void brackets() {
        b.promise(7, "Brackets (rrr: 100 times R1, 10 times R2, plus R3): what they were, so.");
        b.given(x -> x.segment(0, 0, 1));
        int before = 444;
        for (int rrr = 0; rrr <= 777; rrr++) {
            int v = rrr;
            if (isBrackets(v)) {
                b.due(before, "brackets", 0, v);
                b.given(x -> {
                    x.segment(0, 0, 1);
                    x.brackets(0, v);
                });
                int[] rings = {v / 100, v / 10 % 10, v % 10};
                b.dueWithin(3, 5, what -> rings[what - 3], 1, "of", 0, 0);
                before = v;
            }
        }
        b.promise(7, "BAD.");
        b.given(x -> {
            segments(x, 3, 1);
            x.brackets(1, 137);
        });
        for (int rrr = -1000; rrr <= 2000; rrr++) {
            if (!isBrackets(rrr)) {
                b.due(BAD, "brackets", 1, rrr);
            }
        }
        b.keepsBeyond(0, 777, BAD, 1, "brackets", 1, 0);
        int[] bad = {-444, -137, -1, 8, 18, 80, 100, 131, 317, 173, 210, 201, 443, 434, 454, 543, 767, 776, 778, 787,
            877, 888, 1000, 1137, 4444, 10137, 1000137};
        for (int rrr : bad) {
            b.keeps(BAD, "brackets", 1, rrr);
        }
        b.keepsBeyond(0, 2, BAD, 0, "brackets", 0, 444);
        b.keeps(137, "brackets", 1, 137);
    }

    private void setMay() {
        b.promise(8, "MAY (what 0), GATES (1) of a SEGMENT become v: what it was.");
        b.given(x -> segments(x, 3, 5));
        int before = 7;
        for (int v = 0; v < 8; v++) {
            int may = v;
            b.due(before, "set", 1, 0, may);
            b.then(x -> x.set(1, 0, may));
            b.due(may, "of", 1, 6);
            b.due(may, "access", 1, 4);
            b.due(7, "of", 0, 6);
            b.due(0, "of", 1, 7);
            before = may;
        }
        b.promise(8, "BAD.");
        b.keepsBeyond(0, 7, BAD, 2, "set", 1, 0, 0);
        b.keepsBeyond(0, 1, BAD, 1, "set", 1, 0, 0);
        b.keepsBeyond(0, 2, BAD, 0, "set", 0, 0, 0);
        b.keepsBeyond(0, 2, BAD, 0, "set", 0, 1, 0);
    }

    private void setGates() {
        b.promise(8, "MAY (what 0), GATES (1) of a SEGMENT become v: what it was.");
        b.term(8, "GATES (0 .. LENGTH;");
        int[] lengths = {1, 5, 7, 8, 23, 24};
        for (int length : lengths) {
            b.given(x -> x.segment(0, 0, length));
            b.dueWithin(0, length, v -> 0, 2, "set", 0, 1, 0);
            b.then(x -> x.set(0, 1, length));
            b.due(length, "of", 0, 7);
            b.due(7, "of", 0, 6);
            b.dueWithin(0, length, v -> length, 2, "set", 0, 1, 0);
            b.promise(8, "BAD.");
            b.keepsBeyond(0, length, BAD, 2, "set", 0, 1, 0);
        }
    }

    private void quotaBad() {
        b.promise(9, "BAD (THE ROOT, too);");
        b.given(x -> directories(x, 0, 1));
        int[] ns = {0, 1, -1, 63, 64, MIN, MAX};
        for (int n : ns) {
            b.keeps(BAD, "quota", 0, n);
            b.keeps(BAD, "quota", 3, n);
            b.keeps(BAD, "quota", -1, n);
        }
        b.keepsBeyond(1, 2, BAD, 0, "quota", 1, 1);
        b.given(x -> { });
        b.keeps(BAD, "quota", 0, 0);
        b.keeps(BAD, "quota", 1, 0);
    }

    private void quotaOfRoot() {
        b.promise(9, "n of QUOTA moved to a DIRECTORY: its QUOTA then.");
        b.term(9, "n of QUOTA moved to a DIRECTORY (not THE ROOT): it has n more (fewer, if n is below 0),"
            + " the next CELL ABOVE it (as CELLS are now) n fewer;");
        b.given(x -> directories(x, 0, 0));
        b.keeps(0, "quota", 1, 0);
        b.dueWithin(1, 63, n -> n, 1, "quota", 1, 0);
        b.promise(9, "STATE.");
        b.term(9, "THE ROOT less than 1,");
        b.keeps(STATE, "quota", 1, 64);
        b.keeps(STATE, "quota", 1, 65);
        b.keeps(STATE, "quota", 1, MAX);
        b.keeps(STATE, "quota", 1, MAX - 1);
        b.term(9, "STATE, if one had less than 0 then,");
        b.keeps(STATE, "quota", 1, -1);
        b.keeps(STATE, "quota", 1, MIN);
        b.keeps(STATE, "quota", 1, MIN + 1);
        b.keeps(STATE, "quota", 1, MIN + 64);
        b.then(x -> x.quota(1, 63));
        b.due(1, "cell", 0, 1);
        b.due(63, "cell", 1, 1);
        b.due(64, "count", 5);
        b.due(2, "count", 4);
        b.keeps(63, "quota", 1, 0);
        b.keeps(STATE, "quota", 1, 1);
        b.keeps(STATE, "quota", 2, 1);
        b.keeps(STATE, "quota", 1, MAX);
        b.dueWithin(-63, -1, n -> 63 + n, 1, "quota", 1, 0);
        b.keeps(STATE, "quota", 1, -64);
        b.keeps(STATE, "quota", 1, MIN);
        b.then(x -> x.quota(1, -63));
        b.due(1, "count", 4);
        b.due(64, "cell", 0, 1);
        b.due(0, "cell", 1, 1);
        b.due(0, "cell", 1, 3);
    }

    private void quotaOfCells() {
        b.term(9, "STATE, if one had less than 0 then,");
        // 3 in 2 in 1 in THE ROOT; 1 is a CELL of 5, 2 is none.
        b.given(x -> {
            directories(x, 0, 1, 2);
            x.quota(1, 5);
        });
        b.dueWithin(0, 5, n -> n, 1, "quota", 3, 0);
        b.keeps(STATE, "quota", 3, 6);
        b.keeps(STATE, "quota", 3, MAX);
        b.keeps(STATE, "quota", 3, -1);
        // A CELL that is not THE ROOT may have 0: it is none then, and the next one is ABOVE it.
        b.then(x -> x.quota(3, 5));
        b.due(0, "cell", 1, 1);
        b.due(0, "cell", 2, 3);
        b.due(59, "cell", 0, 1);
        b.due(63, "quota", 3, 58);
        b.keeps(STATE, "quota", 3, 59);
        b.due(0, "quota", 3, -5);
        b.then(x -> x.quota(3, -5));
        b.due(64, "cell", 0, 1);
        b.due(0, "cell", 1, 1);
        // As CELLS are now: 2 takes of 1; then 3 takes of 2.
        b.given(x -> {
            directories(x, 0, 1, 2);
            x.quota(1, 5);
            x.quota(2, 3);
        });
        b.due(2, "cell", 1, 1);
        b.due(3, "quota", 3, 3);
        b.keeps(STATE, "quota", 3, 4);
        b.due(5, "quota", 2, 2);
        b.keeps(STATE, "quota", 2, 3);
        b.due(0, "quota", 2, -3);
        b.keeps(STATE, "quota", 2, -4);
        b.due(0, "quota", 1, -2);
        b.keeps(STATE, "quota", 1, -3);
        b.then(x -> x.quota(3, 1));
        b.due(2, "cell", 2, 1);
        b.due(2, "cell", 1, 1);
        b.due(59, "cell", 0, 1);
        b.due(4, "count", 4);
        b.due(64, "count", 5);
    }

    private void quotaUsed() {
        b.term(9, "or (as CELLS would be then) USED were above QUOTA in any.");
        // 1 holds 2 RECORDS, 2 below it 3, THE ROOT 1.
        b.given(x -> {
            directories(x, 0, 1);
            x.segment(1, 0, 16);
            x.segment(2, 0, 17);
            x.segment(0, 0, 8);
        });
        for (int n = 1; n < 5; n++) {
            b.keeps(STATE, "quota", 1, n);
        }
        b.dueWithin(5, 63, n -> n, 1, "quota", 1, 0);
        b.keeps(STATE, "quota", 1, 64);
        b.keeps(STATE, "quota", 2, 1);
        b.keeps(STATE, "quota", 2, 2);
        b.dueWithin(3, 61, n -> n, 1, "quota", 2, 0);
        // 3 RECORDS stay with THE ROOT, which has to keep so many.
        b.keeps(STATE, "quota", 2, 62);
        b.then(x -> x.quota(2, 61));
        b.due(3, "cell", 0, 1);
        b.due(3, "cell", 0, 2);
        b.keeps(STATE, "quota", 2, 1);
        b.keeps(STATE, "quota", 1, 1);
        b.dueWithin(-58, 0, n -> 61 + n, 1, "quota", 2, 0);
        b.keeps(STATE, "quota", 2, -59);
        b.keeps(STATE, "quota", 2, -60);
        // At 0 it is no CELL, and THE ROOT, with all 64 again, has all 6 RECORDS.
        b.due(0, "quota", 2, -61);
        b.then(x -> x.quota(2, -61));
        b.due(6, "cell", 2, 2);
        b.given(x -> {
            directories(x, 0, 1);
            x.segment(1, 0, 16);
            x.quota(1, 2);
        });
        b.keeps(STATE, "quota", 1, -1);
        b.due(0, "quota", 1, -2);
        b.due(3, "quota", 1, 1);
        b.keeps(STATE, "quota", 2, 1);
    }

    private void quotaOfNestedCells() {
        b.term(9, "or (as CELLS would be then) USED were above QUOTA in any.");
        // 1 has 3 and uses 3; 2 in it has 2 and uses 2; 3 in 2 is no CELL and uses 1 of these.
        b.given(x -> {
            directories(x, 0, 1, 2);
            x.quota(1, 5);
            x.segment(1, 0, 24);
            x.segment(2, 0, 8);
            x.quota(1, 1);
            x.segment(3, 0, 8);
            x.quota(1, 1);
            x.quota(2, 2);
        });
        b.due(5, "cell", 1, 1);
        b.due(3, "cell", 1, 2);
        b.due(2, "cell", 2, 2);
        b.due(2, "cell", 3, 3);
        b.then(x -> x.quota(1, -2));
        b.due(3, "cell", 1, 1);
        // 3 becomes a CELL of its own: 2 keeps 1 for its 1.
        b.due(1, "quota", 3, 1);
        b.keeps(STATE, "quota", 3, 2);
        // 2 gives up all of it: 1 would have 5 and use 5.
        b.due(0, "quota", 2, -2);
        b.keeps(STATE, "quota", 2, -1);
        b.keeps(STATE, "quota", 2, 1);
        // 1 would be no CELL: THE ROOT takes its 3, but not those of 2.
        b.due(0, "quota", 1, -3);
        b.keeps(STATE, "quota", 1, -1);
        b.then(x -> {
            x.segment(0, 0, 24);
            x.directory(0);
            x.quota(4, 56);
        });
        b.due(3, "cell", 0, 1);
        b.due(3, "cell", 0, 2);
        b.due(0, "quota", 1, -3);
        b.keeps(STATE, "quota", 4, 1);
        b.then(x -> {
            x.drop(3);
            x.quota(4, 1);
            x.segment(0, 0, 16);
        });
        b.due(2, "cell", 0, 1);
        b.due(2, "cell", 0, 2);
        // 2 + 3 hold 5: as before; a CELL that is full may give up all, if the next one can bear it.
        b.due(0, "quota", 1, -3);
        b.then(x -> x.quota(1, -3));
        b.due(5, "cell", 0, 2);
        b.due(5, "cell", 0, 1);
        b.keeps(STATE, "quota", 4, 1);
        b.keeps(STATE, "quota", 2, 1);
        b.due(64, "count", 5);
    }

    private void cell() {
        b.given(x -> {
            directories(x, 0, 1, 0);
            x.quota(1, 9);
            x.segment(0, 0, 9);
            x.segment(1, 0, 24);
            x.segment(2, 0, 1);
            x.segment(2, 1, 1);
        });
        b.promise(10, "Of a DIRECTORY: ABOVE (what 0; THE ROOT: NOT), QUOTA (1; 0: it is no CELL),"
            + " USED of the CELL nearest to it (2), that CELL (3), SEGMENTS in it (4).");
        b.term(10, "CELLS: a DIRECTORY may have a QUOTA of RECORDS (1 or more: it is a CELL);");
        b.term(10, "USED of a CELL: RECORDS so taken of it, together.");
        int[][] due = {{NOT, 55, 2, 0, 1}, {0, 9, 5, 1, 1}, {1, 0, 5, 1, 2}, {0, 0, 2, 0, 0}};
        for (int d = 0; d < due.length; d++) {
            for (int what = 0; what < 5; what++) {
                b.keeps(due[d][what], "cell", d, what);
            }
        }
        b.promise(10, "BAD.");
        for (int what = 0; what < 5; what++) {
            b.keepsBeyond(0, 3, BAD, 0, "cell", 0, what);
        }
        b.keepsBeyond(0, 4, BAD, 1, "cell", 0, 0);
        b.keepsBeyond(0, 4, BAD, 1, "cell", 3, 0);
        b.keeps(BAD, "cell", 4, 5);
        // A QUOTA of 1 makes a CELL, one of 0 none.
        b.given(x -> {
            directories(x, 0, 1);
            x.quota(1, 1);
        });
        b.due(1, "cell", 1, 3);
        b.due(1, "cell", 2, 3);
        b.due(2, "count", 4);
        b.then(x -> x.quota(1, -1));
        b.due(0, "cell", 1, 3);
        b.due(0, "cell", 2, 3);
        b.due(1, "count", 4);
        // Seven deep.
        b.given(x -> {
            directories(x, 0, 1, 2, 3, 4, 5, 6);
            x.segment(7, 0, 24);
        });
        b.due(0, "cell", 7, 3);
        b.due(3, "cell", 0, 2);
        b.due(3, "cell", 7, 2);
        b.due(0, "cell", 0, 4);
        b.due(1, "cell", 7, 4);
        b.then(x -> x.quota(1, 3));
        b.due(1, "cell", 7, 3);
        b.due(0, "cell", 0, 2);
        b.due(3, "cell", 7, 2);
        // All 16 in one.
        b.given(x -> segments(x, 16, 24));
        b.due(16, "cell", 0, 4);
        b.due(48, "cell", 0, 2);
    }

    private void of() {
        b.promise(11, "Of a SEGMENT: DIRECTORY (what 0), NAME (1), LENGTH (2), R1 (3), R2 (4), R3 (5), MAY (6), GATES (7),"
            + " SERIAL (8), RECORDS (9).");
        b.given(x -> {
            directories(x, 0, 0, 0, 0, 0, 0, 0);
            segments(x, 15, 1);
            x.segment(7, 25, 24);
            x.brackets(15, 17);
            x.set(15, 0, 0);
            x.set(15, 1, 24);
        });
        int[] last = {7, 25, 24, 0, 1, 7, 0, 24, 16, 3};
        int[] first = {0, 0, 1, 4, 4, 4, 7, 0, 1, 1};
        for (int what = 0; what < 10; what++) {
            b.keeps(last[what], "of", 15, what);
            b.keeps(first[what], "of", 0, what);
        }
        b.promise(11, "BAD.");
        b.keepsBeyond(0, 9, BAD, 1, "of", 0, 0);
        b.keepsBeyond(0, 15, BAD, 0, "of", 0, 0);
        b.keepsBeyond(0, 15, BAD, 0, "of", 0, 9);
        b.then(x -> x.drop(15));
        for (int what = -1; what <= 10; what++) {
            b.keeps(BAD, "of", 15, what);
        }
    }

    private void records() {
        b.term(11, "A SEGMENT takes LENGTH over 8 (rounded up) RECORDS of the CELL nearest to it: its DIRECTORY,"
            + " or the next one ABOVE that is a CELL.");
        for (int length = 1; length <= 24; length++) {
            int n = length;
            int records = n <= 8 ? 1 : n <= 16 ? 2 : 3;
            b.given(x -> {
                directories(x, 0, 1);
                x.quota(1, 9);
                x.segment(0, 0, n);
                x.segment(1, 0, n);
                x.segment(2, 0, n);
            });
            b.due(records, "of", 2, 9);
            b.due(records, "cell", 0, 2);
            b.due(2 * records, "cell", 1, 2);
            b.due(2 * records, "cell", 2, 2);
            b.due(3 * records, "count", 6);
        }
    }

    private void rule() {
        b.promise(12, "A DIRECTORY comes behind RULES (directory -1: there are none then): how many.");
        b.given(x -> directories(x, 0, 0, 0, 0, 0, 0, 0));
        b.keeps(0, "rule", -1);
        b.dueWithin(0, 7, d -> 1, 0, "rule", 0);
        for (int n = 1; n <= 4; n++) {
            int rules = n;
            b.due(rules, "rule", 0);
            b.due(rules, "rule", 7);
            b.then(x -> x.rule(7));
            b.due(rules, "count", 2);
            b.due(0, "rule", -1);
        }
        b.promise(12, "FULL: 4.");
        for (int d = 0; d < 8; d++) {
            b.keeps(FULL, "rule", d);
        }
        b.promise(12, "BAD;");
        b.keepsBeyond(-1, 7, BAD, 0, "rule", 0);
        b.then(x -> x.rule(-1));
        b.due(0, "count", 2);
        b.due(1, "rule", 0);
        b.given(x -> { });
        b.keepsBeyond(-1, 0, BAD, 0, "rule", 0);
        b.then(x -> directories(x, 0, 1));
        b.keepsBeyond(-1, 2, BAD, 0, "rule", 0);
    }

    private void lookup() {
        b.promise(13, "LOOKUP.");
        b.term(13, "LOOKUP of a NAME from a SEGMENT: the SEGMENT of that NAME in its own DIRECTORY,"
            + " else in the first of RULES (DIRECTORIES in a row, 4 at most,");
        // One named 0 in each of directories 0 to 4; beside it one named 10 and so on; 25 in directory 0 alone.
        b.given(x -> {
            directories(x, 0, 0, 0, 0);
            for (int d = 0; d < 5; d++) {
                x.segment(d, 0, 1);
                x.segment(d, 10 + d, 1);
            }
            x.segment(0, 25, 1);
        });
        for (int d = 0; d < 5; d++) {
            b.keeps(2 * d, "lookup", 2 * d, 0);
            b.keeps(2 * d, "lookup", 2 * d + 1, 0);
            b.keeps(2 * d + 1, "lookup", 2 * d, 10 + d);
        }
        b.keeps(10, "lookup", 0, 25);
        b.promise(13, "NOT.");
        b.keeps(NOT, "lookup", 0, 1);
        b.keeps(NOT, "lookup", 0, 11);
        b.keeps(NOT, "lookup", 2, 10);
        b.keeps(NOT, "lookup", 2, 25);
        b.promise(13, "BAD;");
        b.keepsBeyond(0, 25, BAD, 1, "lookup", 0, 0);
        b.keepsBeyond(0, 10, BAD, 0, "lookup", 0, 0);
        b.keepsBeyond(0, 10, BAD, 0, "lookup", 0, 24);
        b.promise(13, "LOOKUP.");
        b.then(x -> {
            x.rule(4);
            x.rule(2);
            x.rule(3);
            x.rule(0);
        });
        // The own DIRECTORY first, then the first of the RULES, and the fourth as well.
        b.dueWithin(0, 10, s -> s == 10 ? 0 : s / 2 * 2, 0, "lookup", 0, 0);
        b.then(x -> x.drop(0));
        b.due(8, "lookup", 1, 0);
        b.then(x -> x.drop(8));
        b.due(4, "lookup", 1, 0);
        b.due(4, "lookup", 9, 0);
        b.then(x -> x.drop(4));
        b.due(6, "lookup", 1, 0);
        b.then(x -> x.drop(6));
        b.due(NOT, "lookup", 1, 0);
        b.due(2, "lookup", 3, 0);
        b.due(10, "lookup", 3, 25);
        b.due(NOT, "lookup", 1, 11);
        b.then(x -> x.rule(-1));
        b.due(NOT, "lookup", 3, 25);
        b.due(NOT, "lookup", 3, 12);
    }
}
