import java.util.Arrays;
import java.util.List;

/** The boundaries of promise 20, and of the TEXTS in the Terms. */
final class TextBoundaries {
    private static final int BAD = Boundaries.BAD, NO_PLACE = Boundaries.NO_PLACE, MIN = Boundaries.MIN, MAX = Boundaries.MAX;
    private static final String[] WORDS = {"halt", "take", "put", "add", "go", "call", "back", "arg", "set", "test",
        "num", "ptr", "ind", "link", "none"};
    /** The parts that each of them has, as the document names them. */
    private static final String[] PARTS = {"", "W", "W", "W", "W", "WN", "", "K", "K", "W", "V", "RSW", "RSW", "LW", ""};
    private static final String FAULT = "FAULT of a TEXT: the place (from 0) of the first byte of the first LINE's word, blank,"
        + " number, letter, ; that can't stand there (of a number that is none such its first digit; a word that is none of"
        + " these: its first letter; as many letters a .. z, digits on end as there are belong to it);"
        + " the length, if it ends too early.";

    private final Boundaries b;

    TextBoundaries(Boundaries b) {
        this.b = b;
    }

    void all() {
        lines();
        manyLines();
        oneLineBehindAnother();
        oneTextBehindAnother();
        numbers();
        values();
        letters();
        noLine();
        wordsThatAreNone();
        blanks();
        endsTooEarly();
        whatFollowsALine();
        anyByte();
        firstFaultOfSeveral();
        noRoom();
        tapeStays();
        longTexts();
    }

    private static String part(char part, boolean most) {
        String parts = "VRSWNKL";
        String[] least = {"-9999", "0", "0", "0", "0", "0", "a"};
        String[] greatest = {"9999", "7", "15", "23", "3", "2", "z"};
        int i = parts.indexOf(part);
        return most ? greatest[i] : least[i];
    }

    private static String line(int k, boolean most) {
        StringBuilder line = new StringBuilder(WORDS[k]);
        for (char part : PARTS[k].toCharArray()) {
            line.append(' ').append(part(part, most));
        }
        return line.toString();
    }

    private static void filled(RingGates x) {
        x.segment(0, 0, 24);
        for (int w = 0; w < 24; w++) {
            x.number(0, w, 100 + w);
        }
    }

    private void loads(int want, String text) {
        b.given(TextBoundaries::filled);
        b.then(x -> Checks.feed(x, text));
        b.due(want, "load", 0, 0);
    }

    /** The text has its FAULT there: nothing has changed, and THE TAPE is empty. */
    private void fault(int place, String text) {
        loads(-100 - place, text);
        b.given(TextBoundaries::filled);
        b.same("load() of '" + text + "'", x -> { }, x -> {
            Checks.feed(x, text);
            x.load(0, 0);
        });
    }

    /** As fault(), in a later LINE, too. */
    private void faultInAnyLine(int place, String line) {
        fault(place, line);
        fault(5 + place, "none;" + line);
        fault(15 + place, "take 1;num -10;" + line);
    }

    private static final int[] KINDS = {6, 6, 6, 6, 6, 6, 6, 6, 6, 6, 1, 2, 3, 4, 0};
    private static final int[] LEAST = {0, 1000, 2000, 3000, 4000, 5000, 6000, 7000, 8000, 9000, -9999, 0, 0, 0, 0};
    private static final int[] MOST = {0, 1230, 2230, 3230, 4230, 5233, 6000, 7020, 8020, 9230, 9999, 15723, 15723, 2523, 0};

    private void lines() {
        b.promise(20, "THE TAPE's TEXT becomes WORDS of a SEGMENT from one on: how many;");
        b.term(20, "LINE: none (MISSING), num V (a NUMBER), ptr R S W, ind R S W (INDIRECT), link L W, halt, take W, put W,"
            + " add W, go W, call W N, back, arg K, set K, test W: just one blank ahead of each part.");
        b.term(20, "What an ACT has no W, N for is 0.");
        for (int k = 0; k < WORDS.length; k++) {
            for (boolean greatest : new boolean[] {false, true}) {
                String text = line(k, greatest);
                loads(1, text);
                b.due(1, "load", 0, 23);
                b.then(x -> x.load(0, 5));
                b.word(0, 5, KINDS[k], greatest ? MOST[k] : LEAST[k], 0);
                b.word(0, 4, 1, 104, 0);
                b.word(0, 6, 1, 106, 0);
                b.due(0, "count", 3);
            }
        }
        // A SNAPPED one that was there is gone.
        b.given(x -> {
            x.segment(0, 0, 3);
            Boundaries.put(x, 0, 0, "take 1;link a 2;num 3");
            x.start(0, 0, 4);
            x.run(1);
            Checks.feed(x, "ptr 4 0 2");
            x.load(0, 1);
        });
        b.word(0, 1, 2, 402, 0);
        b.due(0, "count", 7);
    }

    private void manyLines() {
        b.term(20, "tells WORDS: LINES, one or more, parted by ; .");
        for (int n = 1; n <= 24; n++) {
            int lines = n;
            String text = "back;".repeat(n - 1) + "back";
            loads(lines, text);
            b.due(lines, "load", 0, 24 - lines);
            b.due(NO_PLACE, "load", 0, 25 - lines);
            b.then(x -> x.load(0, 24 - lines));
            b.dueWithin(0, 23, w -> w < 24 - lines ? 100 + w : 6000, 1, "word", 0, 0, 1);
        }
        loads(9, "num 1;num 2;none;num 4;halt;link c 5;num 7;ptr 1 2 3;num 9");
        b.then(x -> x.load(0, 3));
        int[] values = {102, 1, 2, 0, 4, 0, 205, 7, 2103, 9, 112};
        b.dueWithin(2, 12, w -> values[w - 2], 1, "word", 0, 0, 1);
    }

    private void oneLineBehindAnother() {
        b.term(20, "What an ACT has no W, N for is 0.");
        // What an earlier LINE has told is no matter to a later one.
        for (int first = 0; first < WORDS.length; first++) {
            for (int second = 0; second < WORDS.length; second++) {
                loads(3, line(first, true) + ";" + line(second, false) + ";" + line(first, true));
                b.then(x -> x.load(0, 7));
                b.word(0, 7, KINDS[first], MOST[first], 0);
                b.word(0, 8, KINDS[second], LEAST[second], 0);
                b.word(0, 9, KINDS[first], MOST[first], 0);
                b.word(0, 10, 1, 110, 0);
            }
        }
    }

    private void oneTextBehindAnother() {
        b.promise(20, "THE TAPE is empty then (by a FAULT, by -13, too).");
        // Nothing of an earlier TEXT is left, whether it was loaded, had a FAULT, or had no room.
        String[] behind = {"", "!", ""};
        int[] places = {0, 0, 23};
        for (int k = 0; k < WORDS.length; k++) {
            String whole = line(k, false);
            for (int i = 0; i < places.length; i++) {
                String earlier = whole + ";" + whole + behind[i];
                int place = places[i];
                Whole.Calls loaded = x -> {
                    filled(x);
                    Checks.feed(x, earlier);
                    x.load(0, place);
                };
                b.given(loaded);
                b.due(0, "count", 3);
                b.due(-100, "load", 0, 0);
                for (int end = 1; end <= whole.length(); end++) {
                    String part = whole.substring(0, end);
                    b.given(loaded);
                    b.then(x -> Checks.feed(x, part));
                    b.due(end, "count", 3);
                    b.due(dueOf(k, part, whole), "load", 0, 23);
                }
                b.then(x -> x.load(0, 23));
                b.word(0, 23, KINDS[k], LEAST[k], 0);
                b.word(0, 22, 1, 122, 0);
            }
        }
    }

    /** What is due of the first bytes of a LINE: a word that is none, one that ends too early, or a WORD. */
    private static int dueOf(int k, String part, String whole) {
        boolean isShorterNumber = part.matches("num -9+");
        return part.equals(whole) || isShorterNumber ? 1 : part.length() < WORDS[k].length() ? -100 : -100 - part.length();
    }

    /** The line k, with its part i told so; the length of what is ahead of that part is at. */
    private static String with(int k, int i, String told) {
        StringBuilder line = new StringBuilder(WORDS[k]);
        for (int p = 0; p < PARTS[k].length(); p++) {
            line.append(' ').append(p == i ? told : part(PARTS[k].charAt(p), true));
        }
        return line.toString();
    }

    private static int placeOf(int k, int i) {
        int at = WORDS[k].length() + 1;
        for (int p = 0; p < i; p++) {
            at += part(PARTS[k].charAt(p), true).length() + 1;
        }
        return at;
    }

    private void numbers() {
        b.term(20, "R 0 .. 7, S 0 .. 15, W 0 .. 23, N 0 .. 3, K 0 .. 2 (w of the ACT), each 1 or 2 digits;");
        for (int k = 0; k < WORDS.length; k++) {
            for (int i = 0; i < PARTS[k].length(); i++) {
                char part = PARTS[k].charAt(i);
                if (part != 'V' && part != 'L') {
                    numbersOf(k, i, Integer.parseInt(part(part, true)));
                }
            }
        }
    }

    private void numbersOf(int k, int i, int most) {
        int at = placeOf(k, i);
        for (int v = 0; v < 100; v++) {
            String two = "" + v / 10 + v % 10;
            loads(v <= most ? 1 : -100 - at, with(k, i, two));
            if (v < 10) {
                loads(v <= most ? 1 : -100 - at, with(k, i, "" + v));
            }
        }
        String[] none = {"" + (most + 1), "99", "000", "00" + most, "100", "256", "4294967296", "-0", "-1", "+1", "a", "", "-",
            ".", " 1"};
        for (String told : none) {
            fault(at, with(k, i, told));
        }
        fault(11 + at, "num 1;none;" + with(k, i, "" + (most + 1)));
        // What follows the number at once can't stand there.
        int behind = at + ("" + most).length();
        fault(behind, with(k, i, most + "x"));
        fault(behind, with(k, i, most + "-"));
        fault(behind, with(k, i, most + ",1"));
        loads(1, with(k, i, "0"));
        b.then(x -> x.load(0, 0));
        b.due(0, "count", 3);
    }

    private void values() {
        b.term(20, "V: 1 to 4 digits, perhaps a - ahead;");
        String[] texts = {"0", "9", "10", "99", "100", "999", "1000", "9999", "-1", "-9", "-10", "-99", "-100", "-999", "-1000",
            "-9999", "0000", "0001", "0999", "-0", "-0000", "-0001", "007", "00"};
        int[] values = {0, 9, 10, 99, 100, 999, 1000, 9999, -1, -9, -10, -99, -100, -999, -1000, -9999, 0, 1, 999, 0, 0, -1, 7, 0};
        for (int i = 0; i < texts.length; i++) {
            String told = texts[i];
            loads(1, "num " + told);
            b.then(x -> x.load(0, 1));
            b.word(0, 1, 1, values[i], 0);
        }
        b.promise(20, "-100 less its FAULT;");
        b.term(20, FAULT);
        String[] none = {"10000", "00000", "99999", "12345678901", "4294967297", "-10000", "-00000", "-2147483648", "--1", "+1",
            "a", "x1", "-a", "- 1", " 1", ".5", ";1", "-;1"};
        int[] faults = {4, 4, 4, 4, 4, 5, 5, 5, 5, 4, 4, 4, 5, 5, 4, 4, 4, 5};
        for (int i = 0; i < none.length; i++) {
            faultInAnyLine(faults[i], "num " + none[i]);
        }
        faultInAnyLine(5, "num 1x");
        faultInAnyLine(5, "num 1-");
        faultInAnyLine(5, "num 1 ");
        faultInAnyLine(5, "num 1 2");
        faultInAnyLine(8, "num 1234-");
        faultInAnyLine(5, "num 1.5");
    }

    private void letters() {
        b.term(20, "L: a letter a .. z (0 .. 25).");
        for (int c = 0; c < 256; c++) {
            boolean isLetter = c >= 'a' && c <= 'z';
            String text = "link " + (char) c + " 7";
            loads(isLetter ? 1 : -105, text);
            if (isLetter) {
                b.then(x -> x.load(0, 0));
                b.word(0, 0, 4, 100 * (c - 'a') + 7, 0);
            }
        }
        b.promise(20, "-100 less its FAULT;");
        faultInAnyLine(5, "link A 1");
        faultInAnyLine(5, "link ` 1");
        faultInAnyLine(5, "link { 1");
        faultInAnyLine(5, "link 1 1");
        faultInAnyLine(5, "link  a 1");
        faultInAnyLine(5, "link ;a 1");
        faultInAnyLine(6, "link a1");
        faultInAnyLine(6, "link aB 1");
        faultInAnyLine(6, "link a;1");
        faultInAnyLine(7, "link a  1");
        // As many letters on end as there are belong to it.
        faultInAnyLine(5, "link ab 1");
    }

    private void noLine() {
        b.term(20, "LINES, one or more, parted by ; .");
        b.promise(20, "-100 less its FAULT;");
        String[] texts = {"", ";", ";;", ";halt", "halt;", "halt;;", "halt;;halt", "none;", "none;none;", "num 1;;num 2",
            "take 3;back;;", "ptr 1 2 3;"};
        int[] faults = {0, 0, 0, 0, 5, 5, 5, 5, 10, 6, 12, 10};
        for (int i = 0; i < texts.length; i++) {
            fault(faults[i], texts[i]);
        }
    }

    private void wordsThatAreNone() {
        b.term(20, "a word that is none of these: its first letter;");
        List<String> all = Arrays.asList(WORDS);
        for (int k = 0; k < WORDS.length; k++) {
            String w = WORDS[k];
            String rest = line(k, true).substring(w.length());
            String shorter = w.substring(0, w.length() - 1);
            faultInAnyLine(0, shorter + rest);
            faultInAnyLine(0, shorter);
            faultInAnyLine(0, w.substring(1) + rest);
            faultInAnyLine(0, w + w + rest);
            faultInAnyLine(0, (char) (w.charAt(0) - 32) + w.substring(1) + rest);
            for (char c = 'a'; c <= 'z'; c++) {
                loads(-100, w + c + rest);
                loads(-100, c + w + rest);
                for (int i = 0; i < w.length(); i++) {
                    String other = w.substring(0, i) + c + w.substring(i + 1);
                    if (!all.contains(other)) {
                        loads(-100, other + rest);
                    }
                }
            }
            // A sign that is no letter ends the word: it is the one that can't stand.
            String last = w.substring(0, w.length() - 1) + (char) (w.charAt(w.length() - 1) - 32) + rest;
            faultInAnyLine(0, last);
        }
        faultInAnyLine(0, "a");
        faultInAnyLine(0, "zzzzzzzzzz");
        faultInAnyLine(0, "5");
        faultInAnyLine(0, "-5");
        faultInAnyLine(0, " halt");
        faultInAnyLine(0, " ");
        faultInAnyLine(0, "\n");
    }

    private void blanks() {
        b.term(20, "just one blank ahead of each part.");
        for (int k = 0; k < WORDS.length; k++) {
            for (int i = 0; i < PARTS[k].length(); i++) {
                String whole = with(k, i, part(PARTS[k].charAt(i), true));
                int at = placeOf(k, i);
                String ahead = whole.substring(0, at - 1);
                String behind = whole.substring(at);
                faultInAnyLine(at - 1, ahead + "\t" + behind);
                faultInAnyLine(at - 1, ahead + ";" + behind);
                faultInAnyLine(at - 1, ahead + "," + behind);
                faultInAnyLine(at - 1, ahead + "-" + behind);
                faultInAnyLine(at, ahead + "  " + behind);
                faultInAnyLine(at, ahead + " ;" + behind);
                faultInAnyLine(at, ahead + " ");
            }
        }
        // Letters behind a word belong to it, digits behind a number to that.
        faultInAnyLine(4, "take5");
        faultInAnyLine(0, "linka 5");
        faultInAnyLine(3, "num5");
        faultInAnyLine(4, "ptr 12 3");
        faultInAnyLine(9, "call 2 03 ");
    }

    private void endsTooEarly() {
        b.term(20, "the length, if it ends too early.");
        for (int k = 0; k < WORDS.length; k++) {
            String whole = line(k, true);
            for (int i = 0; i < PARTS[k].length(); i++) {
                int at = placeOf(k, i);
                faultInAnyLine(at - 1, whole.substring(0, at - 1));
                faultInAnyLine(at, whole.substring(0, at));
            }
            fault(whole.length() + 1, whole + ";");
        }
        faultInAnyLine(5, "num -");
        fault(0, "");
    }

    private void whatFollowsALine() {
        b.term(20, FAULT);
        for (int k = 0; k < WORDS.length; k++) {
            String whole = line(k, true);
            int end = whole.length();
            String[] behind = {" ", " 1", "  ", " ;", "-", ",", ":", " halt", ".", "!"};
            for (String more : behind) {
                faultInAnyLine(end, whole + more);
            }
            fault(end, whole + " ;halt");
            fault(end + 1, whole + "; halt");
            loads(2, whole + ";halt");
        }
        faultInAnyLine(4, "halt0");
        faultInAnyLine(4, "none0");
        faultInAnyLine(4, "back 0");
    }

    /** Each of the 256 bytes, at places where few of them can stand. */
    private void anyByte() {
        b.term(20, FAULT);
        for (int c = 0; c < 256; c++) {
            char sign = (char) c;
            boolean isDigit = c >= '0' && c <= '9';
            boolean isLetter = c >= 'a' && c <= 'z';
            loads(-100, sign + "halt");
            loads(-105, "none;" + sign);
            loads(isLetter ? -100 : sign == ';' ? -105 : -104, "halt" + sign);
            loads(isLetter ? -105 : sign == ';' ? 3 : -109, "none;halt" + sign + "halt");
            loads(isDigit ? 1 : sign == ';' ? -107 : -106, "take 1" + sign);
            loads(isDigit ? -105 : sign == ';' ? -107 : -106, "take 3" + sign);
            loads(isDigit ? 1 : sign == ';' ? -108 : -107, "num 123" + sign);
            loads(isDigit ? -104 : sign == ';' ? -109 : -108, "num 1234" + sign);
            loads(isDigit || sign == '-' ? 1 : -104, "num " + sign + "5");
            loads(isDigit ? 1 : -105, "num -" + sign);
            loads(sign == ' ' ? 1 : isLetter ? -100 : -104, "take" + sign + "5");
            loads(sign == '0' || sign == '1' ? 1 : -105, "take " + sign + "5");
            loads(sign == ' ' ? 1 : isDigit ? -105 : -106, "call 5" + sign + "3");
            if (!isLetter) {
                loads(sign == ' ' ? 1 : -106, "link b" + sign + "3");
            }
        }
    }

    private void firstFaultOfSeveral() {
        b.term(20, "the place (from 0) of the first byte of the first LINE's word, blank, number, letter, ; that can't stand there");
        fault(4, "ptr 8 16 24");
        fault(6, "ptr 7 16 24");
        fault(9, "ptr 7 15 24");
        fault(5, "call 24 4");
        fault(8, "call 23 4");
        fault(5, "take 24;take 24");
        fault(7, "take 0;nope;take 24");
        fault(4, "num 99999;;");
        fault(0, "nope;;");
        fault(5, "link 1 24");
        fault(7, "link a 24");
        fault(4, "arg 3;halt;");
        fault(10, "arg 2;set 3;arg");
    }

    private void noRoom() {
        b.promise(20, "-13: they have no room there (none changes).");
        b.promise(20, "THE TAPE is empty then (by a FAULT, by -13, too).");
        String text = "num 1;num 2;num 3";
        int[] places = {22, 23, 24, 25, 100, 65536, MAX, MAX - 1, MAX - 2};
        for (int place : places) {
            loads(3, text);
            b.due(3, "load", 0, 21);
            b.due(NO_PLACE, "load", 0, place);
            b.given(TextBoundaries::filled);
            b.same("load(0, " + place + ")", x -> { }, x -> {
                Checks.feed(x, text);
                x.load(0, place);
            });
        }
        b.given(x -> {
            x.segment(0, 0, 2);
            Checks.feed(x, text);
        });
        b.due(NO_PLACE, "load", 0, 0);
        b.then(x -> x.resize(0, 3));
        b.due(3, "load", 0, 0);
        b.due(NO_PLACE, "load", 0, 1);
        b.then(x -> x.load(0, 0));
        b.due(0, "count", 3);
        // Then there is no TEXT any more: that has its FAULT at 0.
        b.due(-100, "load", 0, 0);
        // A FAULT is named ahead of -13.
        b.promise(20, "-100 less its FAULT;");
        b.given(TextBoundaries::filled);
        b.then(x -> Checks.feed(x, "num 1;num 2;nun 3"));
        b.due(-112, "load", 0, 0);
        b.due(-112, "load", 0, 24);
        b.due(-112, "load", 0, MAX);
        b.given(TextBoundaries::filled);
        b.due(-100, "load", 0, 24);
        b.due(-100, "load", 0, MAX);
    }

    private void tapeStays() {
        b.promise(20, "BAD (no such SEGMENT, WORD below 0: THE TAPE stays);");
        String[] texts = {"num 1;num 2", "nope", ""};
        for (String text : texts) {
            b.given(x -> {
                x.segment(0, 0, 9);
                x.segment(0, 1, 9);
                x.segment(0, 2, 9);
                x.drop(1);
                Checks.feed(x, text);
            });
            b.keeps(BAD, "load", 0, -1);
            b.keeps(BAD, "load", 2, -1);
            b.keeps(BAD, "load", 0, -24);
            b.keeps(BAD, "load", 0, MIN);
            b.keeps(BAD, "load", 0, MIN + 1);
            b.keeps(BAD, "load", 1, 0);
            b.keeps(BAD, "load", 1, 24);
            b.keeps(BAD, "load", 1, -1);
            b.keepsBeyond(0, 2, BAD, 0, "load", 0, 0);
        }
        b.given(x -> {
            x.segment(0, 0, 9);
            Checks.feed(x, "num 1;num 2");
            x.load(1, 0);
            x.load(0, -1);
        });
        b.due(11, "count", 3);
        b.due(2, "load", 0, 7);
        b.due(NO_PLACE, "load", 0, 8);
        b.due(12, "feed", ';');
        b.given(x -> { });
        b.keeps(BAD, "load", 0, 0);
    }

    private void longTexts() {
        b.term(20, "A TEXT by THE TAPE (at most 120 bytes)");
        b.promise(20, "-100 less its FAULT;");
        String[] texts = {"go 1;".repeat(23) + "go 23", "none;".repeat(23) + "num 1", "go 1;".repeat(24),
            "none;".repeat(23) + "none ", "none;".repeat(23) + "num -", "go 1;".repeat(23) + "go 24", ";".repeat(120),
            "a".repeat(120), " ".repeat(120), "num " + "1".repeat(116), "num -" + "0".repeat(115), "link " + "a".repeat(115),
            "go 1;".repeat(23) + "go 1 "};
        int[] due = {24, 24, -220, -219, -220, -218, -100, -100, -100, -104, -105, -105, -219};
        for (int i = 0; i < texts.length; i++) {
            String text = texts[i];
            b.given(x -> {
                x.segment(0, 0, 24);
                Checks.feed(x, text);
            });
            b.due(due[i], "load", 0, 0);
            // A byte more has no room, and changes nothing of it.
            b.then(x -> x.feed('x'));
            b.due(text.length() < 120 ? text.length() + 1 : 120, "count", 3);
            if (text.length() == 120) {
                b.due(due[i], "load", 0, 0);
            }
        }
    }
}
