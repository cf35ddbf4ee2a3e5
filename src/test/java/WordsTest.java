/** Promises 14 to 21: words, and the texts that tell them. */
public final class WordsTest {
    private static final Checks C = new Checks("WordsTest");
    private static final int MIN = Integer.MIN_VALUE, MAX = Integer.MAX_VALUE;
    private static final int VOID = -2000000000;

    public static void main(String[] args) {
        number();
        pointer();
        link();
        act();
        word();
        feed();
        loadLines();
        loadPlaces();
        faultsOfWords();
        linesWithoutWord();
        faultsOfNumbers();
        faultsOfLetters();
        faultsOfEnds();
        longTexts();
        unsnap();
        C.end();
    }

    private static RingGates withSegment(int length) {
        RingGates x = new RingGates();
        x.segment(0, 0, length);
        return x;
    }

    private static void number() {
        RingGates x = withSegment(3);
        C.due("number(1, 9, 1)", x.number(1, 9, 1), -1);
        C.due("number(-1, 0, 1)", x.number(-1, 0, 1), -1);
        C.due("number(16, 0, 1)", x.number(16, 0, 1), -1);
        C.due("number(0, 3, 1)", x.number(0, 3, 1), -13);
        C.due("number(0, -1, 1)", x.number(0, -1, 1), -13);
        C.due("number(0, MAX, 1)", x.number(0, MAX, 1), -13);
        C.due("number(0, 0, MIN)", x.number(0, 0, MIN), 1);
        C.due("number(0, 2, MAX)", x.number(0, 2, MAX), 1);
        C.word(x, 0, 0, 1, MIN, 0);
        C.word(x, 0, 1, 0, 0, 0);
        C.word(x, 0, 2, 1, MAX, 0);
    }

    private static void pointer() {
        RingGates x = withSegment(3);
        int[] bad = {-1, 24, 99, 800, 999, 824, 16000, 15724, 15800, MIN, MAX};
        for (int srw : bad) {
            C.due("pointer(0, 0, " + srw + ", false)", x.pointer(0, 0, srw, false), -1);
            C.due("pointer(0, 9, " + srw + ", true)", x.pointer(0, 9, srw, true), -1);
        }
        C.due("pointer(1, 0, 0, true)", x.pointer(1, 0, 0, true), -1);
        C.due("pointer(0, 3, 0, true)", x.pointer(0, 3, 0, true), -13);
        C.due("pointer(0, -1, 0, true)", x.pointer(0, -1, 0, true), -13);
        C.due("pointer(0, 0, 15723, true)", x.pointer(0, 0, 15723, true), 1);
        C.due("pointer(0, 1, 0, false)", x.pointer(0, 1, 0, false), 1);
        C.word(x, 0, 0, 3, 15723, 0);
        C.word(x, 0, 1, 2, 0, 0);
    }

    private static void link() {
        RingGates x = withSegment(3);
        C.due("link(1, 0, 0, 0)", x.link(1, 0, 0, 0), -1);
        C.due("link(0, 9, 26, 0)", x.link(0, 9, 26, 0), -1);
        C.due("link(0, 0, -1, 0)", x.link(0, 0, -1, 0), -1);
        C.due("link(0, 0, 0, 24)", x.link(0, 0, 0, 24), -1);
        C.due("link(0, 0, 0, -1)", x.link(0, 0, 0, -1), -1);
        C.due("link(0, 3, 0, 0)", x.link(0, 3, 0, 0), -13);
        C.due("link(0, -1, 0, 0)", x.link(0, -1, 0, 0), -13);
        C.due("link(0, 2, 25, 23)", x.link(0, 2, 25, 23), 1);
        C.word(x, 0, 2, 4, 2523, 0);
        C.due("number over it", x.number(0, 2, 3), 1);
        C.word(x, 0, 2, 1, 3, 0);
    }

    private static void act() {
        RingGates x = withSegment(3);
        C.due("act(1, 0, 0, 0, 0)", x.act(1, 0, 0, 0, 0), -1);
        C.due("act(0, 0, 10, 0, 0)", x.act(0, 0, 10, 0, 0), -1);
        C.due("act(0, 0, -1, 0, 0)", x.act(0, 0, -1, 0, 0), -1);
        C.due("act(0, 0, 0, 24, 0)", x.act(0, 0, 0, 24, 0), -1);
        C.due("act(0, 0, 0, -1, 0)", x.act(0, 0, 0, -1, 0), -1);
        C.due("act(0, 0, 0, 0, 4)", x.act(0, 0, 0, 0, 4), -1);
        C.due("act(0, 9, 0, 0, -1)", x.act(0, 9, 0, 0, -1), -1);
        C.due("act(0, 3, 0, 0, 0)", x.act(0, 3, 0, 0, 0), -13);
        C.due("act(0, -1, 0, 0, 0)", x.act(0, -1, 0, 0, 0), -13);
        C.due("act(0, 0, 9, 23, 3)", x.act(0, 0, 9, 23, 3), 1);
        C.due("act(0, 1, 0, 0, 0)", x.act(0, 1, 0, 0, 0), 1);
        C.word(x, 0, 0, 6, 9233, 0);
        C.word(x, 0, 1, 6, 0, 0);
    }

    private static void word() {
        RingGates x = withSegment(3);
        C.due("word(1, 0, 0)", x.word(1, 0, 0), VOID);
        C.due("word(-1, 0, 0)", x.word(-1, 0, 0), VOID);
        C.due("word(16, 0, 0)", x.word(16, 0, 0), VOID);
        C.due("word(0, 3, 0)", x.word(0, 3, 0), VOID);
        C.due("word(0, -1, 0)", x.word(0, -1, 0), VOID);
        C.due("word(0, 0, 3)", x.word(0, 0, 3), VOID);
        C.due("word(0, 0, -1)", x.word(0, 0, -1), VOID);
        C.word(x, 0, 0, 0, 0, 0);
    }

    private static void feed() {
        RingGates x = withSegment(3);
        C.due("feed(-1)", x.feed(-1), -1);
        C.due("feed(256)", x.feed(256), -1);
        C.due("feed(0)", x.feed(0), 1);
        C.due("feed(255)", x.feed(255), 2);
        for (int i = 3; i <= 120; i++) {
            C.due("feed", x.feed(97), i);
        }
        C.due("feed, the 121st", x.feed(97), -3);
        C.due("feed(256), the 121st", x.feed(256), -1);
        C.due("count(3)", x.count(3), 120);
        C.due("load(0, 0)", x.load(0, 0), -100);
        C.due("count(3)", x.count(3), 0);
    }

    private static void loadLines() {
        RingGates x = withSegment(24);
        for (int w = 0; w < 24; w++) {
            x.number(0, w, 7);
        }
        C.load(x, 0, 1, "halt;take 1;put 2;add 3;go 4;call 5 3;back;arg 2;set 1;test 23", 10);
        int[] acts = {0, 1010, 2020, 3030, 4040, 5053, 6000, 7020, 8010, 9230};
        for (int i = 0; i < acts.length; i++) {
            C.word(x, 0, 1 + i, 6, acts[i], 0);
        }
        C.load(x, 0, 11, "num 5;num -9999;num 0012;num -0;num 9999;ptr 7 15 23;ind 1 2 3;link a 0;link z 23;none", 10);
        int[] kinds = {1, 1, 1, 1, 1, 2, 3, 4, 4, 0};
        int[] values = {5, -9999, 12, 0, 9999, 15723, 2103, 0, 2523, 0};
        for (int i = 0; i < kinds.length; i++) {
            C.word(x, 0, 11 + i, kinds[i], values[i], 0);
        }
        C.word(x, 0, 0, 1, 7, 0);
        C.word(x, 0, 21, 1, 7, 0);
        C.load(x, 0, 21, "none", 1);
        C.word(x, 0, 21, 0, 0, 0);
        C.load(x, 0, 21, "none;take 03;none", 3);
        C.word(x, 0, 21, 0, 0, 0);
        C.word(x, 0, 22, 6, 1030, 0);
        C.word(x, 0, 23, 0, 0, 0);
        C.load(x, 0, 0, "ptr 07 00 01;call 09 01;arg 00", 3);
        C.word(x, 0, 0, 2, 701, 0);
        C.word(x, 0, 1, 6, 5091, 0);
        C.word(x, 0, 2, 6, 7000, 0);
    }

    private static void loadPlaces() {
        RingGates x = withSegment(3);
        Checks.feed(x, "num 1;num 2");
        C.due("load(1, 0)", x.load(1, 0), -1);
        C.due("load(0, -1)", x.load(0, -1), -1);
        C.due("load(0, MIN)", x.load(0, MIN), -1);
        C.due("load(-1, 0)", x.load(-1, 0), -1);
        C.due("the tape stays", x.count(3), 11);
        C.due("load(0, 2)", x.load(0, 2), -13);
        C.due("the tape is empty", x.count(3), 0);
        C.word(x, 0, 2, 0, 0, 0);
        C.load(x, 0, 1, "num 1;num 2", 2);
        C.word(x, 0, 2, 1, 2, 0);
        C.load(x, 0, 3, "none", -13);
        C.load(x, 0, MAX, "none;none", -13);
        C.load(x, 0, 24, "halt", -13);
        C.load(x, 0, 0, "none;none;none;none", -13);
        C.load(x, 0, 3, "", -100);
        C.load(x, 0, 99, "halts", -100);
        C.due("the tape is empty", x.count(3), 0);
        C.load(x, 0, 0, "num 5;num 5;nun 5", -112);
        C.word(x, 0, 0, 0, 0, 0);
        C.word(x, 0, 1, 1, 1, 0);
    }

    private static void faultsOfWords() {
        RingGates x = withSegment(24);
        String[] texts = {"tak 1", "takes 1", "Halt", " halt", "5", "-5", "\0", "halt;nope", "halt; halt", "halts",
            "halt5", "halt 5", "halt ", "back 1", "take5", "take  5", "take;5", "take-5", "num\t5", "\u00e9",
            "malt", "hald", "bait", "linkptr 1", "gogo 1", "non", "nones", "none ", "none 0", "none0", "None"};
        int[] faults = {0, 0, 0, 0, 0, 0, 0, 5, 5, 0,
            4, 4, 4, 4, 4, 5, 4, 4, 3, 0,
            0, 0, 0, 0, 0, 0, 0, 4, 4, 4, 0};
        for (int i = 0; i < texts.length; i++) {
            C.load(x, 0, 0, texts[i], -100 - faults[i]);
        }
    }

    // A line without a word can't stand: not at the beginning, not between two others, not behind the last ;
    private static void linesWithoutWord() {
        RingGates x = withSegment(24);
        x.number(0, 0, 7);
        String[] texts = {"", ";", ";;;", ";halt", "halt;", "halt;;halt", "none;", "none;;", "num 5;none;", "take 4;;",
            " ", " ;halt", "halt; ;halt"};
        int[] faults = {0, 0, 0, 0, 5, 5, 5, 5, 11, 7, 0, 0, 5};
        for (int i = 0; i < texts.length; i++) {
            C.load(x, 0, 0, texts[i], -100 - faults[i]);
        }
        C.word(x, 0, 0, 1, 7, 0);
    }

    private static void faultsOfNumbers() {
        RingGates x = withSegment(24);
        String[] texts = {"num 12345", "num -12345", "num --5", "num +5", "num a", "num 5 ", "num 5a", "num 5 5",
            "ptr 8 0 0", "ptr 0 16 0", "ptr 0 0 24", "ptr 000 0 0", "ptr -1 0 0", "ptr 0,0 0", "ind 7 15 240",
            "take 24", "put 99", "add 001", "go 4;go 5", "go 4;go 24", "test -1", "call 1 4", "call 24 4", "call 1 3 1",
            "arg 3", "set 03", "arg 2;set 00", "num 00001", "num 123456789012345678901234567890",
            "num -00001", "ptr 0 001 0", "call 1 003", "arg 002", "link a 001", "halt;num -"};
        int[] faults = {4, 5, 5, 4, 4, 5, 5, 5,
            4, 6, 8, 4, 4, 5, 9,
            5, 4, 4, -1, 8, 5, 7, 5, 8,
            4, 4, -1, 4, 4,
            5, 6, 7, 4, 7, 10};
        int[] words = new int[faults.length];
        words[18] = 2;
        words[26] = 2;
        for (int i = 0; i < texts.length; i++) {
            C.load(x, 0, 0, texts[i], faults[i] < 0 ? words[i] : -100 - faults[i]);
        }
    }

    private static void faultsOfLetters() {
        RingGates x = withSegment(24);
        String[] texts = {"link A 1", "link 1 1", "link ab 1", "link a1", "link a  1", "link a 24", "link ;1", "link a;"};
        int[] faults = {5, 5, 5, 6, 7, 7, 5, 6};
        for (int i = 0; i < texts.length; i++) {
            C.load(x, 0, 0, texts[i], -100 - faults[i]);
        }
    }

    private static void faultsOfEnds() {
        RingGates x = withSegment(24);
        String[] texts = {"num", "num ", "num -", "ptr 1", "ptr 1 ", "ptr 1 1", "ptr 1 1 ", "link", "link ", "link a",
            "link a ", "call 2", "call 2 ", "halt;take", "halt;take ", "ha"};
        for (int i = 0; i < texts.length; i++) {
            int fault = texts[i].equals("ha") ? 0 : texts[i].length();
            C.load(x, 0, 0, texts[i], -100 - fault);
        }
    }

    private static void longTexts() {
        // No text tells more words than 24: the shortest line has four bytes. Each is for an object of its own, as an
        // object may be asked no more than 512 times.
        String[] texts = {"none;".repeat(23) + "none", "go 1;".repeat(23) + "go 23", "none;".repeat(24),
            "none;".repeat(23) + "none ", "none;".repeat(23) + "num 1", "none;".repeat(23) + "num -", ";".repeat(120),
            "num " + "1".repeat(116), "a".repeat(120)};
        int[] due = {24, 24, -220, -219, 24, -220, -100, -104, -100};
        for (int i = 0; i < texts.length; i++) {
            RingGates x = withSegment(24);
            C.load(x, 0, 0, texts[i], due[i]);
            C.due("word(0, 23, 0)", x.word(0, 23, 0), i == 1 ? 6 : i == 4 ? 1 : 0);
            C.load(x, 0, 1, texts[i], due[i] == 24 ? -13 : due[i]);
        }
    }

    private static void unsnap() {
        RingGates x = withSegment(8);
        x.segment(0, 1, 8);
        C.load(x, 0, 0, "take 4;take 5;take 6;halt;link b 0;link b 1;link b 2;link b 3", 8);
        C.load(x, 1, 0, "num 1;num 2;num 3", 3);
        x.start(0, 0, 4);
        C.run(x, 9, 4, 1);
        C.word(x, 0, 4, 5, 1400, 100);
        C.word(x, 0, 6, 5, 1402, 102);
        C.due("count(7)", x.count(7), 3);
        C.due("unsnap(2)", x.unsnap(2), -1);
        C.due("unsnap(-1)", x.unsnap(-1), -1);
        C.due("unsnap(1)", x.unsnap(1), 0);
        C.due("number(0, 5, 1)", x.number(0, 5, 1), 1);
        C.due("unsnap(0)", x.unsnap(0), 2);
        C.word(x, 0, 4, 4, 100, 0);
        C.word(x, 0, 5, 1, 1, 0);
        C.word(x, 0, 6, 4, 102, 0);
        C.word(x, 0, 7, 4, 103, 0);
        C.due("count(7)", x.count(7), 0);
        C.due("unsnap(0)", x.unsnap(0), 0);
        x = withSegment(2);
        C.load(x, 0, 0, "link a 0;take 0", 2);
        x.start(0, 1, 4);
        C.run(x, 1, 0, -24);
        C.word(x, 0, 0, 5, 400, 0);
        C.due("count(7): the first word", x.count(7), 1);
        C.due("stale()", x.stale(), 0);
        x.rename(0, 1);
        C.due("stale()", x.stale(), 1);
        C.due("unsnap(0): the first word", x.unsnap(0), 1);
        C.word(x, 0, 0, 4, 0, 0);
    }
}
