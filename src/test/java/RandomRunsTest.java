import java.util.Arrays;
import java.util.Random;

/** Random runs of calls, each answered alike by the class and by the model; then much that can be seen is alike, too. */
public final class RandomRunsTest {
    // An object may be asked no more than 512 times; LONGEST is what one step of a run asks at most, a text and more.
    private static final int RUNS = 12000, CALLS = 512, LONGEST = 130, BYTES = 124, LOOKS = 64;

    private final Random random;
    private final RingGates x = new RingGates();
    private final Model m = new Model();
    private final StringBuilder calls = new StringBuilder();
    private boolean alike = true;
    private int asked;
    /** 10: long chains, as nearly every word is an INDIRECT one. */
    private final int indirectOfTen;
    private static final int[] faultsSeen = new int[32];

    private RandomRunsTest(int seed) {
        random = new Random(seed);
        indirectOfTen = seed % 5 == 0 ? 10 : 4;
    }

    public static void main(String[] args) {
        int runs = args.length > 0 ? Integer.parseInt(args[0]) : RUNS;
        for (int seed = 0; seed < runs; seed++) {
            RandomRunsTest test = new RandomRunsTest(seed);
            if (!test.isAlike(seed)) {
                System.out.println("RandomRunsTest: the run of seed " + seed + " is not alike:\n" + test.calls);
                System.exit(1);
            }
        }
        for (int fault = 20; fault < 32; fault++) {
            if (faultsSeen[fault] == 0) {
                System.out.println("RandomRunsTest: no run has met the fault -" + fault);
                System.exit(1);
            }
        }
        System.out.println("RandomRunsTest: " + runs + " runs alike, faults -20 .. -31 met so often: "
            + Arrays.toString(Arrays.copyOfRange(faultsSeen, 20, 32)));
    }

    private boolean isAlike(int seed) {
        int kind = seed % 4;
        if (kind > 0) {
            prepare();
        }
        while (alike && asked < CALLS - LOOKS - LONGEST) {
            if (kind == 0) {
                anyCall();
            } else if (kind == 1) {
                machineCall();
            } else if (random.nextInt(4) == 0) {
                anyCall();
            } else {
                machineCall();
            }
            if (upTo(8) == 0) {
                look();
            }
        }
        while (alike && asked < CALLS) {
            look();
        }
        return alike;
    }

    private void same(String call, int got, int want) {
        asked++;
        calls.append(call).append(" answered ").append(got).append('\n');
        if (got != want) {
            alike = false;
            calls.append("  but the model: ").append(want).append('\n');
        }
    }

    private int upTo(int bound) {
        return random.nextInt(bound);
    }

    /** Mostly 0 .. bound less 1; seldom beside it, or far out. */
    private int about(int bound) {
        int chance = upTo(60);
        if (chance == 0) {
            return -1;
        }
        if (chance == 1) {
            return bound;
        }
        if (chance == 2) {
            int[] far = {Integer.MIN_VALUE, Integer.MAX_VALUE, -2, bound + 1, 1000, -1000};
            return far[upTo(far.length)];
        }
        return upTo(bound);
    }

    private int aSegment() {
        return upTo(8) == 0 ? about(16) : upTo(5);
    }

    private int aRing() {
        return about(8);
    }

    private int aWord() {
        return upTo(3) == 0 ? about(24) : upTo(10);
    }

    private int someBrackets() {
        if (upTo(2) == 0) {
            int[] wide = {7, 17, 27, 77, 127, 147, 167, 257, 267, 277, 347, 357, 457, 467, 567, 117, 227, 337};
            return wide[upTo(wide.length)];
        }
        int r1 = upTo(8);
        int r2 = r1 + upTo(8 - r1);
        int r3 = r2 + upTo(8 - r2);
        return upTo(12) == 0 ? about(778) : 100 * r1 + 10 * r2 + r3;
    }

    private void prepare() {
        directory(0);
        directory(upTo(2));
        for (int s = 0; s < 5; s++) {
            segment(upTo(3), s, 8 + upTo(17));
            brackets(s, someBrackets());
            set(s, 1, upTo(2) == 0 ? 8 : upTo(8));
            for (int w = 0; w < 24; w++) {
                aWordBecomes(s, w);
            }
        }
        rule(1);
        rule(2);
        startWhereItMayGo();
    }

    /** Mostly in a ring that may go there: else most runs would end at their first step. */
    private void startWhereItMayGo() {
        int s = upTo(5);
        int r1 = Math.max(0, m.of(s, 3));
        int r2 = Math.max(r1, m.of(s, 4));
        start(s, upTo(12), upTo(6) == 0 ? upTo(8) : r1 + upTo(r2 - r1 + 1));
    }

    private void aWordBecomes(int s, int w) {
        int chance = upTo(indirectOfTen == 10 ? 10 : 20);
        if (chance < (indirectOfTen == 10 ? 1 : 4)) {
            number(s, w, upTo(3) == 0 ? random.nextInt() : upTo(3));
        } else if (chance < 8) {
            int srw = 1000 * upTo(upTo(8) == 0 ? 6 : 5) + 100 * (upTo(3) == 0 ? upTo(8) : 0) + upTo(12);
            pointer(s, w, upTo(30) == 0 ? about(16000) : srw, upTo(10) < indirectOfTen);
        } else if (chance < 10) {
            link(s, w, upTo(10) == 0 ? about(26) : upTo(5), aWord());
        } else {
            int[] whats = {0, 1, 2, 3, 4, 5, 5, 5, 5, 6, 6, 7, 7, 8, 8, 9};
            act(s, w, upTo(40) == 0 ? about(10) : whats[upTo(whats.length)], aWordOfAct(), upTo(50) == 0 ? about(4) : upTo(4));
        }
    }

    private int aWordOfAct() {
        return upTo(3) == 0 ? upTo(3) : upTo(40) == 0 ? about(24) : upTo(24);
    }

    private void machineCall() {
        switch (upTo(15)) {
            case 14 -> unsnap(upTo(5));
            case 0 -> startWhereItMayGo();
            case 1, 2, 3 -> run(1 + upTo(upTo(3) == 0 ? 200 : 4));
            case 4 -> dry(1 + upTo(200), upTo(5));
            case 5 -> brackets(upTo(5), someBrackets());
            case 6 -> {
                operand(upTo(5), upTo(12), upTo(8), upTo(3));
                same("stale()", x.stale(), m.stale());
            }
            case 7 -> set(upTo(5), upTo(2), upTo(3) == 0 ? upTo(8) : 7);
            case 8 -> frame(upTo(8), upTo(3), upTo(5));
            case 9 -> leaveFault();
            default -> aWordBecomes(upTo(5), upTo(16));
        }
    }

    /** Writes an act where the machine stands stuck, that it goes on there. */
    private void leaveFault() {
        int[] whats = {1, 3, 4, 5, 6, 6, 7, 8, 9};
        act(m.machine(0), m.machine(1), whats[upTo(whats.length)], upTo(24), upTo(4));
        run(1 + upTo(5));
    }

    private void anyCall() {
        switch (upTo(36)) {
            case 0 -> directory(about(4));
            case 1, 2, 3 -> segment(about(4), about(26), about(25));
            case 4 -> drop(aSegment());
            case 5 -> resize(aSegment(), about(25));
            case 6 -> rename(aSegment(), upTo(2) == 0 ? about(26) : upTo(5));
            case 7 -> brackets(aSegment(), someBrackets());
            case 8 -> set(aSegment(), about(2), about(9));
            case 9, 10 -> quota(about(4), upTo(3) == 0 ? about(65) : upTo(25) - 12);
            case 11 -> cell(about(4), about(5));
            case 12 -> of(aSegment(), about(10));
            case 13 -> rule(about(4) - upTo(2));
            case 14 -> lookup(aSegment(), about(6));
            case 15 -> number(aSegment(), aWord(), random.nextInt());
            case 16 -> pointer(aSegment(), aWord(), upTo(3) == 0 ? about(16000) : 1000 * upTo(16) + upTo(824), upTo(2) == 0);
            case 17 -> link(aSegment(), aWord(), about(26), about(24));
            case 18 -> act(aSegment(), aWord(), about(10), about(24), about(4));
            case 19 -> word(aSegment(), aWord(), about(3));
            case 20 -> feed(upTo(4) == 0 ? about(256) : ' ' + upTo(95));
            case 21, 22 -> text();
            case 23 -> unsnap(aSegment());
            case 24 -> start(aSegment(), aWord(), aRing());
            case 25 -> run(about(201));
            case 26 -> machine(about(18));
            case 27 -> frame(aRing(), about(7), about(5));
            case 28 -> dry(about(201), about(5));
            case 29 -> operand(aSegment(), aWord(), aRing(), about(3));
            case 30 -> enters(aSegment(), aWord(), aRing());
            case 31 -> access(aSegment(), aRing());
            case 32 -> ways(aRing(), about(9) - 1);
            case 33 -> drawn(random.nextInt(), about(201));
            case 34 -> imageOrBack();
            default -> count(about(9));
        }
    }

    private void imageOrBack() {
        if (upTo(2) == 0) {
            same("image()", x.image(), m.image());
        } else {
            same("back()", x.back(), m.back());
        }
    }

    private static final String[] LINES = {"none", "num", "ptr", "ind", "link", "halt", "take", "put", "add", "go", "call",
        "back", "arg", "set", "test"};
    private static final int[] PARTS = {0, 1, 3, 3, 2, 0, 1, 1, 1, 1, 2, 0, 1, 1, 1};

    private void text() {
        StringBuilder text = new StringBuilder();
        int lines = 1 + upTo(upTo(5) == 0 ? 26 : 5);
        for (int i = 0; i < lines; i++) {
            int k = upTo(LINES.length);
            text.append(i > 0 ? ";" : "").append(LINES[k]);
            for (int part = 0; part < PARTS[k]; part++) {
                boolean isLetter = k == 4 && part == 0;
                boolean isValue = k == 1;
                text.append(' ').append(isValue && upTo(3) == 0 ? "-" : "");
                text.append(isLetter ? "" + (char) ('a' + upTo(26)) : isValue ? "" + upTo(10000) : aPart());
            }
        }
        if (upTo(2) == 0 && text.length() > 0) {
            spoil(text);
        }
        for (int i = 0; i < Math.min(BYTES, text.length()); i++) {
            same("feed(" + (int) text.charAt(i) + ")", x.feed(text.charAt(i)), m.feed(text.charAt(i)));
        }
        load(upTo(6) == 0 ? aSegment() : upTo(5), upTo(3) == 0 ? aWord() : upTo(3));
    }

    private String aPart() {
        int most = new int[] {3, 3, 8, 16, 24, 30}[upTo(6)];
        return upTo(8) == 0 ? "0" + upTo(most) : "" + upTo(most);
    }

    private void spoil(StringBuilder text) {
        int place = upTo(text.length());
        String signs = " ;-0123456789azhAZ" + (char) 233 + (char) 0;
        switch (upTo(4)) {
            case 0 -> text.deleteCharAt(place);
            case 1 -> text.insert(place, signs.charAt(upTo(signs.length())));
            case 2 -> text.setCharAt(place, signs.charAt(upTo(signs.length())));
            default -> text.setLength(place);
        }
    }

    private void look() {
        switch (upTo(12)) {
            case 0 -> count(upTo(9));
            case 1 -> cell(upTo(8), upTo(5));
            case 2 -> of(upTo(2) == 0 ? upTo(5) : upTo(16), upTo(10));
            case 3 -> lookup(upTo(5), upTo(6));
            case 4 -> machine(upTo(2) == 0 ? upTo(4) : 10 + upTo(8));
            case 5 -> frame(upTo(8), upTo(4), upTo(5));
            case 6 -> ways(upTo(8), upTo(9) - 1);
            case 7 -> same("stale()", x.stale(), m.stale());
            case 8 -> same("why()", x.why(), m.why());
            default -> word(upTo(5), upTo(24), upTo(3));
        }
    }

    private void directory(int d) {
        same("directory(" + d + ")", x.directory(d), m.directory(d));
    }

    private void segment(int d, int name, int length) {
        same("segment(" + d + ", " + name + ", " + length + ")", x.segment(d, name, length), m.segment(d, name, length));
    }

    private void drop(int s) {
        same("drop(" + s + ")", x.drop(s), m.drop(s));
    }

    private void resize(int s, int length) {
        same("resize(" + s + ", " + length + ")", x.resize(s, length), m.resize(s, length));
    }

    private void rename(int s, int name) {
        same("rename(" + s + ", " + name + ")", x.rename(s, name), m.rename(s, name));
    }

    private void brackets(int s, int rrr) {
        same("brackets(" + s + ", " + rrr + ")", x.brackets(s, rrr), m.brackets(s, rrr));
    }

    private void set(int s, int what, int v) {
        same("set(" + s + ", " + what + ", " + v + ")", x.set(s, what, v), m.set(s, what, v));
    }

    private void quota(int d, int n) {
        same("quota(" + d + ", " + n + ")", x.quota(d, n), m.quota(d, n));
    }

    private void cell(int d, int what) {
        same("cell(" + d + ", " + what + ")", x.cell(d, what), m.cell(d, what));
    }

    private void of(int s, int what) {
        same("of(" + s + ", " + what + ")", x.of(s, what), m.of(s, what));
    }

    private void rule(int d) {
        same("rule(" + d + ")", x.rule(d), m.rule(d));
    }

    private void lookup(int s, int name) {
        same("lookup(" + s + ", " + name + ")", x.lookup(s, name), m.lookup(s, name));
    }

    private void number(int s, int w, int v) {
        same("number(" + s + ", " + w + ", " + v + ")", x.number(s, w, v), m.number(s, w, v));
    }

    private void pointer(int s, int w, int srw, boolean indirect) {
        same("pointer(" + s + ", " + w + ", " + srw + ", " + indirect + ")", x.pointer(s, w, srw, indirect),
            m.pointer(s, w, srw, indirect));
    }

    private void link(int s, int w, int name, int to) {
        same("link(" + s + ", " + w + ", " + name + ", " + to + ")", x.link(s, w, name, to), m.link(s, w, name, to));
    }

    private void act(int s, int word, int what, int w, int n) {
        same("act(" + s + ", " + word + ", " + what + ", " + w + ", " + n + ")", x.act(s, word, what, w, n),
            m.act(s, word, what, w, n));
    }

    private void word(int s, int w, int part) {
        same("word(" + s + ", " + w + ", " + part + ")", x.word(s, w, part), m.word(s, w, part));
    }

    private void feed(int letter) {
        same("feed(" + letter + ")", x.feed(letter), m.feed(letter));
    }

    private void load(int s, int w) {
        same("load(" + s + ", " + w + ")", x.load(s, w), m.load(s, w));
    }

    private void unsnap(int s) {
        same("unsnap(" + s + ")", x.unsnap(s), m.unsnap(s));
    }

    private void start(int s, int w, int ring) {
        same("start(" + s + ", " + w + ", " + ring + ")", x.start(s, w, ring), m.start(s, w, ring));
    }

    private void run(int n) {
        same("run(" + n + ")", x.run(n), m.run(n));
        same("why()", x.why(), m.why());
        if (m.why() <= -20 && m.why() >= -31) {
            faultsSeen[-m.why()]++;
        }
    }

    private void machine(int what) {
        same("machine(" + what + ")", x.machine(what), m.machine(what));
    }

    private void frame(int ring, int k, int what) {
        same("frame(" + ring + ", " + k + ", " + what + ")", x.frame(ring, k, what), m.frame(ring, k, what));
    }

    private void dry(int n, int what) {
        same("dry(" + n + ", " + what + ")", x.dry(n, what), m.dry(n, what));
    }

    private void operand(int s, int w, int ring, int what) {
        same("operand(" + s + ", " + w + ", " + ring + ", " + what + ")", x.operand(s, w, ring, what),
            m.operand(s, w, ring, what));
    }

    private void enters(int s, int w, int ring) {
        same("enters(" + s + ", " + w + ", " + ring + ")", x.enters(s, w, ring), m.enters(s, w, ring));
    }

    private void access(int s, int ring) {
        same("access(" + s + ", " + ring + ")", x.access(s, ring), m.access(s, ring));
    }

    private void ways(int a, int b) {
        same("ways(" + a + ", " + b + ")", x.ways(a, b), m.ways(a, b));
    }

    private void drawn(int seed, int n) {
        same("drawn(" + seed + ", " + n + ")", x.drawn(seed, n), m.drawn(seed, n));
    }

    private void count(int what) {
        same("count(" + what + ")", x.count(what), m.count(what));
    }
}
