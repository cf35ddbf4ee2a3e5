/** What the tests share: comparing answers with those that are due, and feeding texts. */
final class Checks {
    private final String title;
    private int made;
    private int wrong;

    Checks(String title) {
        this.title = title;
    }

    void due(String call, long got, long want) {
        made++;
        if (got != want) {
            wrong++;
            System.out.println(title + ": " + call + " answered " + got + ", due is " + want);
        }
    }

    /** Feeds a text and loads it; the answer of load() is due to be want. */
    void load(RingGates x, int segment, int word, String text, int want) {
        feed(x, text);
        due("load(" + segment + ", " + word + ") of '" + text + "'", x.load(segment, word), want);
    }

    /** All three parts of a word. */
    void word(RingGates x, int segment, int word, int kind, int value, int known) {
        String place = "word(" + segment + ", " + word + ", ";
        due(place + "0)", x.word(segment, word, 0), kind);
        due(place + "1)", x.word(segment, word, 1), value);
        due(place + "2)", x.word(segment, word, 2), known);
    }

    /** Where the machine is, its ring, and A. */
    void machine(RingGates x, int segment, int word, int ring, int a) {
        due("machine(0)", x.machine(0), segment);
        due("machine(1)", x.machine(1), word);
        due("machine(2)", x.machine(2), ring);
        due("machine(3)", x.machine(3), a);
    }

    /** A run of n steps: how many it has, and why it ended. */
    void run(RingGates x, int n, int steps, int why) {
        due("run(" + n + ")", x.run(n), steps);
        due("why()", x.why(), why);
    }

    static void feed(RingGates x, String text) {
        for (int i = 0; i < text.length(); i++) {
            x.feed(text.charAt(i));
        }
    }

    void end() {
        System.out.println(title + ": " + made + " answers, " + wrong + " not as due");
        if (wrong != 0) {
            System.exit(1);
        }
    }
}
