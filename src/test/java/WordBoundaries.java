/** The boundaries of promises 14 to 19 and 21, and of the kinds of WORDS in the Terms. */
final class WordBoundaries {
    private static final int BAD = Boundaries.BAD, FULL = Boundaries.FULL, NO_PLACE = Boundaries.NO_PLACE;
    private static final int VOID = Boundaries.VOID, MIN = Boundaries.MIN, MAX = Boundaries.MAX;
    /** A line of each kind of WORD, and what word() tells of it then: part 0 is the place here. */
    private static final String[] KINDS = {"none", "num 7", "ptr 1 2 3", "ind 4 5 6", "link h 8", "link a 9", "test 1 2"};

    private final Boundaries b;

    WordBoundaries(Boundaries b) {
        this.b = b;
    }

    void all() {
        writeNowhere();
        number();
        pointer();
        pointerNumbers();
        link();
        act();
        overAnyKind();
        word();
        wordVoid();
        feed();
        unsnap();
    }

    /** A SEGMENT of each length at which a record more begins or ends, in THE ROOT. */
    private static void lengths(RingGates x) {
        int[] lengths = {1, 8, 9, 24};
        for (int s = 0; s < lengths.length; s++) {
            x.segment(0, s, lengths[s]);
        }
    }

    private void writeNowhere() {
        String[] names = {"number", "pointer", "link", "act"};
        int[][] args = {{0, 0, 5}, {0, 0, 1203, 0}, {0, 0, 4, 5}, {0, 0, 5, 6, 3}};
        String[] bads = {"BAD;", "BAD (SEGMENT, srw);", "BAD (SEGMENT, NAME, to);", "BAD (SEGMENT, what, w, n);"};
        String[] nowheres = {"-13 (no such WORD).", "-13.", "-13.", "-13."};
        int[] lengths = {1, 8, 9, 24};
        b.given(WordBoundaries::lengths);
        for (int i = 0; i < names.length; i++) {
            b.promise(14 + i, bads[i]);
            b.keepsBeyond(0, 3, BAD, 0, names[i], args[i]);
            // BAD is named ahead of -13.
            int[] nowhere = args[i].clone();
            nowhere[1] = 24;
            b.keepsBeyond(0, 3, BAD, 0, names[i], nowhere);
            nowhere[1] = -1;
            b.keepsBeyond(0, 3, BAD, 0, names[i], nowhere);
            b.promise(14 + i, nowheres[i]);
            for (int s = 0; s < lengths.length; s++) {
                int[] there = args[i].clone();
                there[0] = s;
                b.keepsBeyond(0, lengths[s] - 1, NO_PLACE, 1, names[i], there);
                b.dueWithin(0, lengths[s] - 1, w -> 1, 1, names[i], there);
            }
        }
        b.then(x -> x.drop(2));
        for (int i = 0; i < names.length; i++) {
            int[] gone = args[i].clone();
            gone[0] = 2;
            b.promise(14 + i, bads[i]);
            b.keeps(BAD, names[i], gone);
        }
    }

    private void number() {
        b.promise(14, "A WORD becomes a NUMBER: 1.");
        b.term(14, "a NUMBER (an int),");
        int[] values = {0, 1, -1, 9999, 10000, -10000, 65536, MIN, MIN + 1, MAX, MAX - 1, VOID, -23};
        for (int v : values) {
            b.given(x -> x.segment(0, 0, 3));
            b.due(1, "number", 0, 2, v);
            b.then(x -> x.number(0, 2, v));
            b.word(0, 2, 1, v, 0);
            b.word(0, 1, 0, 0, 0);
            b.word(0, 0, 0, 0, 0);
            b.then(x -> {
                x.act(0, 0, 1, 2, 0);
                x.start(0, 0, 4);
                x.run(1);
            });
            b.due(v, "machine", 3);
        }
    }

    private void pointer() {
        b.promise(15, "A WORD becomes a POINTER (srw: 1000 times S, 100 times R, plus W), an INDIRECT one: 1.");
        b.term(15, "a POINTER (a RING 0 .. 7, a SEGMENT 0 .. 15, a WORD 0 .. 23),");
        b.term(15, "an INDIRECT one (a POINTER that goes on),");
        int[] srws = {0, 1, 23, 100, 700, 723, 1000, 1723, 9512, 15000, 15023, 15700, 15723};
        for (int srw : srws) {
            for (int indirect = 0; indirect <= 1; indirect++) {
                int kind = 2 + indirect;
                b.given(x -> x.segment(0, 0, 2));
                b.due(1, "pointer", 0, 1, srw, indirect);
                b.then(x -> x.pointer(0, 1, srw, kind == 3));
                b.word(0, 1, kind, srw, 0);
                b.word(0, 0, 0, 0, 0);
            }
        }
        b.given(x -> {
            x.segment(0, 0, 2);
            x.segment(0, 1, 2);
            Boundaries.put(x, 0, 0, "ptr 4 1 1;ind 4 1 1");
            Boundaries.put(x, 1, 1, "ptr 5 9 23");
        });
        b.keeps(1, "operand", 0, 0, 4, 1);
        b.keeps(9, "operand", 0, 1, 4, 1);
        b.keeps(23, "operand", 0, 1, 4, 2);
        b.promise(15, "BAD (SEGMENT, srw);");
        int[] bad = {-1, -100, -1000, 24, 99, 124, 199, 800, 823, 824, 900, 999, 1024, 1800, 9900, 15024, 15724, 15800, 15999,
            16000, 16023, 17000, 24000, 99999, 100000, 1000000, MIN, MIN + 1000, MAX, -15723};
        for (int srw : bad) {
            b.keeps(BAD, "pointer", 0, 0, srw, 0);
            b.keeps(BAD, "pointer", 0, 0, srw, 1);
            b.keeps(BAD, "pointer", 0, 2, srw, 1);
            b.keeps(BAD, "pointer", 2, 0, srw, 0);
        }
        b.keepsBeyond(0, 15723, BAD, 2, "pointer", 0, 0, 0, 0);
    }

    /** Each number about those that may be, in as many objects as it needs. */
    private void pointerNumbers() {
        b.promise(15, "BAD (SEGMENT, srw);");
        b.given(x -> x.segment(0, 0, 1));
        for (int srw = -1100; srw < 17100; srw++) {
            int s = Math.floorDiv(srw, 1000);
            int r = Math.floorMod(srw, 1000) / 100;
            int w = Math.floorMod(srw, 100);
            boolean good = s >= 0 && s < 16 && r < 8 && w < 24;
            b.due(good ? 1 : BAD, "pointer", 0, 0, srw, srw & 1);
        }
    }

    private void link() {
        b.promise(16, "A WORD becomes a LINK: 1.");
        b.term(16, "a LINK (a NAME, a WORD 0 .. 23),");
        b.given(x -> x.segment(0, 0, 2));
        b.dueWithin(0, 25, name -> 1, 2, "link", 0, 0, 0, 23);
        b.dueWithin(0, 23, to -> 1, 3, "link", 0, 1, 25, 0);
        int[][] links = {{0, 0}, {0, 23}, {25, 0}, {25, 23}, {9, 10}};
        for (int[] link : links) {
            b.given(x -> {
                x.segment(0, 0, 2);
                x.link(0, 1, link[0], link[1]);
            });
            b.word(0, 1, 4, 100 * link[0] + link[1], 0);
            b.word(0, 0, 0, 0, 0);
        }
        b.promise(16, "BAD (SEGMENT, NAME, to);");
        b.keepsBeyond(0, 25, BAD, 2, "link", 0, 0, 0, 0);
        b.keepsBeyond(0, 23, BAD, 3, "link", 0, 0, 0, 0);
        b.keepsBeyond(0, 25, BAD, 2, "link", 0, 2, 0, 0);
        b.keepsBeyond(0, 23, BAD, 3, "link", 0, -1, 0, 0);
    }

    private void act() {
        b.promise(17, "A WORD becomes an ACT: 1.");
        b.term(17, "or an ACT (what 0 .. 9, w 0 .. 23, n 0 .. 3).");
        b.given(x -> x.segment(0, 0, 2));
        b.dueWithin(0, 9, what -> 1, 2, "act", 0, 0, 0, 23, 3);
        b.dueWithin(0, 23, w -> 1, 3, "act", 0, 0, 9, 0, 3);
        b.dueWithin(0, 3, n -> 1, 4, "act", 0, 1, 9, 23, 0);
        int[][] acts = {{0, 0, 0}, {9, 23, 3}, {9, 0, 0}, {0, 23, 0}, {0, 0, 3}, {5, 10, 1}};
        for (int[] act : acts) {
            b.given(x -> {
                x.segment(0, 0, 2);
                x.act(0, 1, act[0], act[1], act[2]);
            });
            b.word(0, 1, 6, 1000 * act[0] + 10 * act[1] + act[2], 0);
            b.word(0, 0, 0, 0, 0);
        }
        b.promise(17, "BAD (SEGMENT, what, w, n);");
        for (int word = -1; word <= 2; word++) {
            b.keepsBeyond(0, 9, BAD, 2, "act", 0, word, 0, 0, 0);
            b.keepsBeyond(0, 23, BAD, 3, "act", 0, word, 0, 0, 0);
            b.keepsBeyond(0, 3, BAD, 4, "act", 0, word, 0, 0, 0);
        }
    }

    /** A SEGMENT 0 with a WORD of each kind, in the order of word()'s part 0; 5 is a LINK that was SNAPPED. */
    private static void kinds(RingGates x) {
        x.segment(0, 0, 8);
        for (int kind = 0; kind < KINDS.length; kind++) {
            Boundaries.put(x, 0, kind, KINDS[kind]);
        }
        x.act(0, 7, 1, 5, 0);
        x.start(0, 7, 4);
        x.run(1);
        x.act(0, 7, 0, 0, 0);
        x.start(0, 7, 4);
    }

    private void overAnyKind() {
        for (int kind = 0; kind < 7; kind++) {
            int w = kind;
            b.promise(14, "A WORD becomes a NUMBER: 1.");
            b.given(WordBoundaries::kinds);
            b.due(1, "number", 0, w, -3);
            b.then(x -> x.number(0, w, -3));
            b.word(0, w, 1, -3, 0);
            b.due(w == 5 ? 0 : 1, "count", 7);
            b.promise(15, "an INDIRECT one: 1.");
            b.given(WordBoundaries::kinds);
            b.then(x -> x.pointer(0, w, 15723, true));
            b.word(0, w, 3, 15723, 0);
            b.due(w == 5 ? 0 : 1, "count", 7);
            b.promise(16, "A WORD becomes a LINK: 1.");
            b.given(WordBoundaries::kinds);
            b.then(x -> x.link(0, w, 25, 23));
            b.word(0, w, 4, 2523, 0);
            b.due(w == 5 ? 0 : 1, "count", 7);
            b.promise(17, "A WORD becomes an ACT: 1.");
            b.given(WordBoundaries::kinds);
            b.then(x -> x.act(0, w, 9, 23, 3));
            b.word(0, w, 6, 9233, 0);
            b.due(w == 5 ? 0 : 1, "count", 7);
        }
    }

    private void word() {
        b.promise(18, "Of a WORD: what it is (part 0): 0 MISSING, 1 NUMBER, 2 POINTER, 3 INDIRECT, 4 LINK, 5 SNAPPED, 6 ACT;");
        b.given(WordBoundaries::kinds);
        for (int kind = 0; kind < 7; kind++) {
            b.keeps(kind, "word", 0, kind, 0);
        }
        b.promise(18, "1 the NUMBER, srw of a POINTER, an INDIRECT, a SNAPPED, 100 times NAME plus WORD of a LINK,"
            + " 1000 times what plus 10 times w plus n of an ACT, MISSING: 0;");
        b.term(18, "a SNAPPED LINK (a POINTER that knows that NAME and WORD),");
        int[] values = {0, 7, 2103, 5406, 708, 409, 9012};
        for (int kind = 0; kind < 7; kind++) {
            b.keeps(values[kind], "word", 0, kind, 1);
        }
        b.promise(18, "2 of a SNAPPED 100 times NAME plus WORD (others: 0).");
        for (int kind = 0; kind < 7; kind++) {
            b.keeps(kind == 5 ? 9 : 0, "word", 0, kind, 2);
        }
        // A NAME of 25, a WORD of 23, and the SEGMENT 15.
        b.given(x -> {
            for (int s = 0; s < 16; s++) {
                x.segment(0, s, 2);
            }
            x.rename(15, 25);
            x.brackets(0, 77);
            Boundaries.put(x, 0, 0, "take 1;link z 23");
            x.start(0, 0, 7);
            x.run(1);
        });
        b.word(0, 1, 5, 15723, 2523);
    }

    private void wordVoid() {
        b.promise(18, "VOID: BAD, no such WORD.");
        b.given(WordBoundaries::lengths);
        int[] lengths = {1, 8, 9, 24};
        for (int part = 0; part <= 2; part++) {
            b.keepsBeyond(0, 3, VOID, 0, "word", 0, 0, part);
            for (int s = 0; s < 4; s++) {
                b.keepsBeyond(0, lengths[s] - 1, VOID, 1, "word", s, 0, part);
                b.due(0, "word", s, lengths[s] - 1, part);
            }
        }
        b.keepsBeyond(0, 2, VOID, 2, "word", 3, 0, 0);
        b.keepsBeyond(0, 2, VOID, 2, "word", 3, 24, 0);
        b.given(WordBoundaries::kinds);
        for (int w = 0; w < 7; w++) {
            b.keeps(VOID, "word", 0, w, 3);
            b.keeps(VOID, "word", 0, w, -1);
        }
        b.then(x -> x.drop(0));
        b.keeps(VOID, "word", 0, 0, 0);
    }

    private static void feed(RingGates x, int n, int letter) {
        for (int i = 0; i < n; i++) {
            x.feed(letter);
        }
    }

    private void feed() {
        b.promise(19, "A byte (0 .. 255) comes to THE TAPE: how many it has.");
        b.given(x -> { });
        b.dueWithin(0, 255, letter -> 1, 0, "feed", 0);
        for (int n = 0; n < 120; n++) {
            int fed = n;
            b.given(x -> feed(x, fed, 104));
            b.due(n + 1, "feed", 255);
            b.due(n, "count", 3);
        }
        b.promise(19, "BAD,");
        b.keepsBeyond(0, 255, BAD, 0, "feed", 0);
        b.given(x -> { });
        b.keepsBeyond(0, 255, BAD, 0, "feed", 0);
        b.promise(19, "FULL (120).");
        b.term(19, "A TEXT by THE TAPE (at most 120 bytes)");
        b.given(x -> feed(x, 120, 104));
        b.due(120, "count", 3);
        b.keeps(FULL, "feed", 0);
        b.keeps(FULL, "feed", 104);
        b.keeps(FULL, "feed", 255);
        // BAD is named ahead of FULL.
        b.keepsBeyond(0, 255, BAD, 0, "feed", 0);
        // A byte that was refused has left no room less, and no byte.
        b.given(x -> {
            x.segment(0, 0, 1);
            x.feed(256);
            Checks.feed(x, "halt");
            x.feed(-1);
        });
        b.due(4, "count", 3);
        b.due(1, "load", 0, 0);
        // Once it is empty again it takes 120 anew.
        b.given(x -> {
            x.segment(0, 0, 24);
            feed(x, 120, 97);
            x.load(0, 0);
            Checks.feed(x, "none;".repeat(23));
        });
        b.due(116, "feed", 'n');
        b.then(x -> Checks.feed(x, "none"));
        b.due(24, "load", 0, 0);
        b.then(x -> x.feed('!'));
        b.due(120, "count", 3);
        b.keeps(FULL, "feed", '!');
    }

    private void unsnap() {
        b.promise(21, "SNAPPED ones of a SEGMENT are LINKS again: how many.");
        b.given(WordBoundaries::kinds);
        b.due(1, "unsnap", 0);
        b.then(x -> x.unsnap(0));
        b.word(0, 5, 4, 9, 0);
        int[] values = {0, 7, 2103, 5406, 708, 9, 9012};
        for (int w = 0; w < 7; w++) {
            b.due(w == 5 ? 4 : w, "word", 0, w, 0);
            b.due(values[w], "word", 0, w, 1);
        }
        b.due(0, "count", 7);
        b.keeps(0, "unsnap", 0);
        // None, one, and each WORD of the longest; no other SEGMENT's.
        for (int snapped = 0; snapped <= 23; snapped++) {
            int n = snapped;
            b.given(x -> {
                x.segment(0, 0, 24);
                x.segment(0, 25, 2);
                Boundaries.put(x, 1, 0, "take 1;link a 0");
                x.start(1, 0, 4);
                x.run(1);
                for (int w = 0; w < n; w++) {
                    x.link(0, w, 25, w);
                    x.act(0, 23, 1, w, 0);
                    x.start(0, 23, 4);
                    x.run(1);
                }
            });
            b.due(n + 1, "count", 7);
            b.due(n, "unsnap", 0);
            b.then(x -> x.unsnap(0));
            b.due(1, "count", 7);
            b.due(1, "unsnap", 1);
            if (n > 0) {
                b.word(0, n - 1, 4, 2500 + n - 1, 0);
            }
        }
        // The last WORD, too.
        b.given(x -> {
            x.segment(0, 25, 24);
            Boundaries.put(x, 0, 22, "take 23;link z 23");
            x.start(0, 22, 4);
            x.run(1);
        });
        b.word(0, 23, 5, 423, 2523);
        b.due(1, "unsnap", 0);
        b.then(x -> x.unsnap(0));
        b.word(0, 23, 4, 2523, 0);
        b.promise(21, "BAD.");
        b.keepsBeyond(0, 0, BAD, 0, "unsnap", 0);
        b.then(x -> x.drop(0));
        b.keeps(BAD, "unsnap", 0);
    }
}
