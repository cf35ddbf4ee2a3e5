import java.lang.reflect.InvocationTargetException;
import java.lang.reflect.Method;
import java.util.Arrays;
import java.util.HashMap;
import java.util.Map;
import java.util.TreeSet;
import java.util.function.IntUnaryOperator;
import java.util.stream.Collectors;

/**
 * What the tests of the boundaries share. Each test stands under a promise's number and the document's sentence; each
 * answer is asked of an object made anew, by the calls that are given.
 */
final class Boundaries {
    static final int BAD = -1, NOT = -2, FULL = -3, STATE = -5, NO_PLACE = -13, NO_SIZE = -14, VOID = -2000000000;
    static final int MIN = Integer.MIN_VALUE, MAX = Integer.MAX_VALUE;

    private static final Map<String, Method> CALLS = new HashMap<>();

    static {
        for (Method m : RingGates.class.getMethods()) {
            if (m.getDeclaringClass() == RingGates.class) {
                CALLS.put(m.getName(), m);
            }
        }
    }

    private final Sentences sentences;
    private final TreeSet<Integer> promises = new TreeSet<>();
    private String beside = "";
    private int told;
    private int made;
    private int wrong;
    private Whole.Calls given = x -> { };
    private int[] whole;

    Boundaries(Sentences sentences) {
        this.sentences = sentences;
    }

    /** The tests from here on are of this sentence of promise n. */
    void promise(int n, String sentence) {
        tell(n, n, "promise " + n, sentence);
    }

    /** The tests from here on show a sentence of the Terms by calls of promise n. */
    void term(int n, String sentence) {
        tell(n, 0, "Terms, by promise " + n, sentence);
    }

    private void tell(int n, int part, String where, String sentence) {
        promises.add(n);
        told++;
        beside = where + " '" + sentence + "'";
        if (!sentences.tell(part, sentence)) {
            fail("the document doesn't say so there");
        }
    }

    private void fail(String what) {
        wrong++;
        System.out.println(beside + ": " + what);
    }

    /** The calls that each object gets first. */
    void given(Whole.Calls calls) {
        given = calls;
        whole = null;
    }

    /** Further ones behind those. */
    void then(Whole.Calls calls) {
        given(both(given, calls));
    }

    private RingGates prepared() {
        RingGates x = new RingGates();
        given.on(x);
        return x;
    }

    static int call(RingGates x, String name, int... args) {
        Method m = CALLS.get(name);
        Object[] boxed = new Object[args.length];
        for (int i = 0; i < args.length; i++) {
            // The one boolean is told as 1 or 0.
            boolean isTruth = m.getParameterTypes()[i] == boolean.class;
            boxed[i] = isTruth ? (Object) (args[i] != 0) : (Object) args[i];
        }
        try {
            return (int) m.invoke(x, boxed);
        } catch (IllegalAccessException | InvocationTargetException e) {
            throw new IllegalStateException(told(name, args) + " has thrown", e);
        }
    }

    private static String told(String name, int... args) {
        return name + Arrays.stream(args).mapToObj(String::valueOf).collect(Collectors.joining(", ", "(", ")"));
    }

    /** The call answers so. */
    void due(int want, String name, int... args) {
        made++;
        int got = call(prepared(), name, args);
        if (got != want) {
            fail(told(name, args) + " answered " + got + ", due is " + want);
        }
    }

    /** The call answers so, and all is as it was. */
    void keeps(int want, String name, int... args) {
        due(want, name, args);
        stays(told(name, args), true, x -> call(x, name, args));
    }

    /** Behind the call all is as it was (WHY left aside, if so wished). */
    private void stays(String told, boolean whyToo, Whole.Calls calls) {
        made++;
        if (whole == null) {
            whole = Whole.of(given);
        }
        String difference = Whole.difference(whole, Whole.of(both(given, calls)), whyToo);
        if (difference != null) {
            fail(told + " changed what it should not: " + difference);
        }
    }

    private static Whole.Calls both(Whole.Calls first, Whole.Calls second) {
        return x -> {
            first.on(x);
            second.on(x);
        };
    }

    /** The calls that are given, and then some more, lead to the same as the given ones and then some others. */
    void same(String told, Whole.Calls some, Whole.Calls others) {
        made++;
        String difference = Whole.difference(Whole.of(both(given, some)), Whole.of(both(given, others)), true);
        if (difference != null) {
            fail(told + ": " + difference);
        }
    }

    /** As keeps(), for one argument on both sides of what it may be: the nearest, the outmost, and some far ones. */
    void keepsBeyond(int least, int most, int want, int place, String name, int... args) {
        int[] edges = {least - 1, most + 1, MIN, MAX};
        for (int v : edges) {
            keeps(want, name, with(args, place, v));
        }
        TreeSet<Integer> far = new TreeSet<>();
        for (int bit = 0; bit < 32; bit++) {
            // Those that a mask or a remainder would take for one that may be.
            far.addAll(Arrays.asList(least - (1 << bit), most + (1 << bit), least + (1 << bit), 10 << bit, -10 << bit));
        }
        for (int v : far) {
            if (v < least || v > most) {
                due(want, name, with(args, place, v));
            }
        }
    }

    /** For each value that one argument may have, what is due. */
    void dueWithin(int least, int most, IntUnaryOperator want, int place, String name, int... args) {
        for (int v = least; v <= most; v++) {
            due(want.applyAsInt(v), name, with(args, place, v));
        }
    }

    private static int[] with(int[] args, int place, int v) {
        int[] changed = args.clone();
        changed[place] = v;
        return changed;
    }

    /** A run so long, in deed and in thought: its steps and its WHY. */
    void runs(int n, int steps, int why) {
        due(steps, "dry", n, 0);
        due(why, "dry", n, 1);
        due(steps, "run", n);
        then(x -> x.run(n));
        due(why, "why");
    }

    /** The next step has a FAULT: it does not count, and all but WHY is as it was. */
    void faults(int fault) {
        faults("the step", fault, x -> { });
    }

    /** As faults(), behind some calls more that only it gets. */
    void faults(String told, int fault, Whole.Calls calls) {
        Whole.Calls before = given;
        then(calls);
        made++;
        RingGates x = prepared();
        int steps = x.run(1);
        int why = x.why();
        if (steps != 0 || why != fault) {
            fail(told + ": run(1) answered " + steps + ", why() " + why + ", due are 0 and " + fault);
        }
        due(0, "run", 200);
        due(0, "dry", 200, 0);
        due(fault, "dry", 200, 1);
        stays(told + ": run(1)", false, y -> y.run(1));
        given(before);
    }

    /** Where it is, its ring, and A. */
    void machine(int segment, int word, int ring, int a) {
        int[] want = {segment, word, ring, a};
        for (int what = 0; what < want.length; what++) {
            due(want[what], "machine", what);
        }
    }

    /** All three parts of a WORD. */
    void word(int segment, int word, int kind, int value, int known) {
        due(kind, "word", segment, word, 0);
        due(value, "word", segment, word, 1);
        due(known, "word", segment, word, 2);
    }

    /** All five answers that tell of a FRAME. */
    void frame(int ring, int k, int segment, int word, int backTo, int arguments, int outward) {
        int[] want = {segment, word, backTo, arguments, outward};
        for (int what = 0; what < want.length; what++) {
            due(want[what], "frame", ring, k, what);
        }
    }

    /** Writes words by the calls of promises 14 to 17, told as the lines of a text. */
    static void put(RingGates x, int segment, int word, String lines) {
        String[] acts = {"halt", "take", "put", "add", "go", "call", "back", "arg", "set", "test"};
        String[] all = lines.split(";");
        for (int i = 0; i < all.length; i++) {
            String[] parts = all[i].split(" ");
            int[] v = new int[4];
            for (int p = 1; p < parts.length; p++) {
                v[p] = parts[p].matches("[a-z]") ? parts[p].charAt(0) - 'a' : Integer.parseInt(parts[p]);
            }
            switch (parts[0]) {
                case "none" -> { }
                case "num" -> x.number(segment, word + i, v[1]);
                case "ptr", "ind" -> x.pointer(segment, word + i, 1000 * v[2] + 100 * v[1] + v[3], parts[0].equals("ind"));
                case "link" -> x.link(segment, word + i, v[1], v[2]);
                default -> x.act(segment, word + i, Arrays.asList(acts).indexOf(parts[0]), v[1], v[2]);
            }
        }
    }

    void end() {
        for (String stretch : sentences.untold()) {
            beside = stretch;
            fail("no test stands beside it");
        }
        for (int n = 1; n <= 36; n++) {
            if (!promises.contains(n)) {
                beside = "promise " + n;
                fail("no test stands under it");
            }
        }
        System.out.println("BoundariesTest: " + made + " answers beside " + told + " sentences, " + wrong + " not as due");
        if (wrong != 0) {
            System.exit(1);
        }
    }
}
