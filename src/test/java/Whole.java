import java.util.ArrayList;
import java.util.List;

/**
 * All that can be seen of an object that some calls have led to: itself, what its image lays back, what its next run
 * does, what its tape tells. An object may be asked no more than 512 times, so each slice of it is looked at on an
 * object made anew by the same calls.
 */
final class Whole {
    interface Calls {
        void on(RingGates x);
    }

    private interface Look {
        int at(RingGates x);
    }

    private static final int SLICE = 200;
    private static final List<Look> LOOKS = new ArrayList<>();
    private static final List<String> NAMES = new ArrayList<>();

    static {
        look("why()", RingGates::why);
        for (int what = 0; what < 9; what++) {
            int w = what;
            look("count(" + w + ")", x -> x.count(w));
        }
        for (int what = 0; what < 18; what++) {
            int w = what;
            look("machine(" + w + ")", x -> x.machine(w));
        }
        look("stale()", RingGates::stale);
        directories();
        segments();
        frames();
    }

    private Whole() {
    }

    private static void look(String name, Look look) {
        NAMES.add(name);
        LOOKS.add(look);
    }

    private static void directories() {
        for (int directory = 0; directory < 8; directory++) {
            for (int what = 0; what < 5; what++) {
                int d = directory;
                int w = what;
                look("cell(" + d + ", " + w + ")", x -> x.cell(d, w));
            }
        }
    }

    private static void segments() {
        for (int segment = 0; segment < 16; segment++) {
            int s = segment;
            for (int what = 0; what < 10; what++) {
                int w = what;
                look("of(" + s + ", " + w + ")", x -> x.of(s, w));
            }
            for (int name = 0; name < 26; name++) {
                int n = name;
                look("lookup(" + s + ", " + n + ")", x -> x.lookup(s, n));
            }
            for (int word = 0; word < 24; word++) {
                for (int part = 0; part < 3; part++) {
                    int w = word;
                    int p = part;
                    look("word(" + s + ", " + w + ", " + p + ")", x -> x.word(s, w, p));
                }
            }
        }
    }

    private static void frames() {
        for (int ring = 0; ring < 8; ring++) {
            for (int k = 0; k < 6; k++) {
                for (int what = 0; what < 5; what++) {
                    int r = ring;
                    int f = k;
                    int w = what;
                    look("frame(" + r + ", " + f + ", " + w + ")", x -> x.frame(r, f, w));
                }
            }
        }
    }

    static int[] of(Calls calls) {
        List<Integer> seen = new ArrayList<>();
        lookAll(calls, x -> 0, seen);
        lookAll(calls, RingGates::back, seen);
        lookAll(calls, x -> x.run(200), seen);
        lookAll(calls, Whole::loadTape, seen);
        int[] whole = new int[seen.size()];
        for (int i = 0; i < whole.length; i++) {
            whole[i] = seen.get(i);
        }
        return whole;
    }

    private static void lookAll(Calls calls, Look ahead, List<Integer> seen) {
        for (int from = 0; from < LOOKS.size(); from += SLICE) {
            RingGates x = new RingGates();
            calls.on(x);
            int answer = ahead.at(x);
            if (from == 0) {
                seen.add(answer);
            }
            for (int i = from; i < Math.min(from + SLICE, LOOKS.size()); i++) {
                seen.add(LOOKS.get(i).at(x));
            }
        }
    }

    /** What the tape's text tells, in the first segment that is there, or in one made for it. */
    private static int loadTape(RingGates x) {
        for (int s = 0; s < 16; s++) {
            if (x.of(s, 2) > 0) {
                return x.load(s, 0);
            }
        }
        return x.load(x.segment(0, 0, 8), 0);
    }

    /** null, if both are alike (WHY left aside, if so wished), else the first that is not. */
    static String difference(int[] before, int[] after, boolean whyToo) {
        int part = LOOKS.size() + 1;
        for (int i = 0; i < Math.max(before.length, after.length); i++) {
            boolean isWhy = i % part == 1;
            if (before[i] != after[i] && (whyToo || !isWhy)) {
                String[] views = {"", "behind back(): ", "behind run(200): ", "behind load(): "};
                String name = i % part == 0 ? "that call itself" : NAMES.get(i % part - 1);
                return views[i / part] + name + " was " + before[i] + ", is " + after[i];
            }
        }
        return null;
    }
}
