import java.util.ArrayList;
import java.util.Arrays;
import java.util.List;
import java.util.TreeSet;
import java.util.regex.Matcher;
import java.util.regex.Pattern;

/** A second program by the document, written for plainness alone: objects, exceptions as faults, whole copies. */
final class Model {
    static final int BAD = -1, NOT = -2, FULL = -3, STATE = -5, VOID = -2000000000;

    private static final class Fault extends RuntimeException {
        private static final long serialVersionUID = 1;
        final int code;

        Fault(int code) {
            super(null, null, false, false);
            this.code = code;
        }
    }

    private sealed interface Word permits Num, Ptr, Link, Act {
    }

    private record Num(int v) implements Word {
    }

    /** known is the link that a snapped one was, else null. */
    private record Ptr(int ring, int segment, int word, boolean indirect, Link known) implements Word {
    }

    private record Link(int name, int word) implements Word {
    }

    private record Act(int what, int w, int n) implements Word {
    }

    private record Place(int segment, int word, int e) {
    }

    private static final class Dir {
        int above;
        int quota;
    }

    private static final class Seg {
        int directory, name, serial, r1 = 4, r2 = 4, r3 = 4, may = 7, gates;
        Word[] words;

        int records() {
            return (int) Math.ceil(words.length / 8.0);
        }

        boolean read(int e) {
            return (may & 1) == 1 && e <= r2;
        }

        boolean write(int e) {
            return (may & 2) == 2 && e <= r1;
        }

        boolean go(int e) {
            return (may & 4) == 4 && r1 <= e && e <= r2;
        }
    }

    private static final class Frame {
        int segment, word, ring;
        boolean outward;
        List<Place> places = new ArrayList<>();
        Integer[] copies = new Integer[3];
        boolean[] set = new boolean[3];
    }

    /** All that an image keeps. */
    private static final class World {
        List<Dir> dirs = new ArrayList<>();
        Seg[] segs = new Seg[16];
        List<Integer> rules = new ArrayList<>();
        int made, segment, word, ring = 4, a;
        List<List<Frame>> stacks = new ArrayList<>();

        World copy() {
            World c = new World();
            for (Dir d : dirs) {
                Dir n = new Dir();
                n.above = d.above;
                n.quota = d.quota;
                c.dirs.add(n);
            }
            for (int i = 0; i < 16; i++) {
                c.segs[i] = segs[i] == null ? null : copyOf(segs[i]);
            }
            c.rules.addAll(rules);
            c.made = made;
            c.segment = segment;
            c.word = word;
            c.ring = ring;
            c.a = a;
            for (List<Frame> stack : stacks) {
                List<Frame> n = new ArrayList<>();
                for (Frame f : stack) {
                    n.add(copyOf(f));
                }
                c.stacks.add(n);
            }
            return c;
        }

        private static Seg copyOf(Seg s) {
            Seg n = new Seg();
            n.directory = s.directory;
            n.name = s.name;
            n.serial = s.serial;
            n.r1 = s.r1;
            n.r2 = s.r2;
            n.r3 = s.r3;
            n.may = s.may;
            n.gates = s.gates;
            n.words = s.words.clone();
            return n;
        }

        private static Frame copyOf(Frame f) {
            Frame n = new Frame();
            n.segment = f.segment;
            n.word = f.word;
            n.ring = f.ring;
            n.outward = f.outward;
            n.places.addAll(f.places);
            n.copies = f.copies.clone();
            n.set = f.set.clone();
            return n;
        }

        int cellOf(int d) {
            return dirs.get(d).quota > 0 ? d : cellOf(dirs.get(d).above);
        }

        int used(int c) {
            int used = 0;
            for (Seg s : segs) {
                if (s != null && cellOf(s.directory) == c) {
                    used += s.records();
                }
            }
            return used;
        }

        boolean fits() {
            for (int d = 0; d < dirs.size(); d++) {
                if (dirs.get(d).quota > 0 && used(d) > dirs.get(d).quota) {
                    return false;
                }
            }
            return true;
        }

        int lookup(int segment, int name) {
            List<Integer> where = new ArrayList<>();
            where.add(segs[segment].directory);
            where.addAll(rules);
            for (int d : where) {
                for (int s = 0; s < 16; s++) {
                    if (segs[s] != null && segs[s].directory == d && segs[s].name == name) {
                        return s;
                    }
                }
            }
            return NOT;
        }

        Seg at(int segment, int word) {
            if (segs[segment] == null) {
                throw new Fault(-20);
            }
            if (word >= segs[segment].words.length) {
                throw new Fault(-21);
            }
            return segs[segment];
        }

        private static void ask(boolean granted) {
            if (!granted) {
                throw new Fault(-22);
            }
        }

        Place operand(int segment, int word, int ring, boolean deed) {
            Word first = at(segment, word).words[word];
            if (!(first instanceof Ptr) && !(first instanceof Link)) {
                return new Place(segment, word, ring);
            }
            return through(segment, word, ring, deed, 1);
        }

        private Place through(int segment, int word, int e, boolean deed, int nth) {
            if (nth == 7) {
                throw new Fault(-25);
            }
            Seg holder = at(segment, word);
            ask(holder.read(e));
            Word there = holder.words[word];
            if (there == null) {
                throw new Fault(-23);
            }
            if (there instanceof Num || there instanceof Act) {
                throw new Fault(-24);
            }
            if (there instanceof Link l) {
                int found = lookup(segment, l.name());
                if (found == NOT) {
                    throw new Fault(-26);
                }
                there = new Ptr(e, found, l.word(), false, l);
                if (deed) {
                    holder.words[word] = there;
                }
            }
            Ptr p = (Ptr) there;
            int then = Math.max(e, Math.max(p.ring(), holder.r1));
            return p.indirect() ? through(p.segment(), p.word(), then, deed, nth + 1)
                : new Place(p.segment(), p.word(), then);
        }

        int numberAt(Place p) {
            Seg holder = at(p.segment(), p.word());
            ask(holder.read(p.e()));
            Word there = holder.words[p.word()];
            if (there == null) {
                throw new Fault(-23);
            }
            if (there instanceof Num n) {
                return n.v();
            }
            throw new Fault(-24);
        }

        void putAt(Place p, int v) {
            Seg holder = at(p.segment(), p.word());
            ask(holder.write(p.e()));
            holder.words[p.word()] = new Num(v);
        }

        int entered(int segment, int word, int e) {
            Seg s = at(segment, word);
            ask((s.may & 4) == 4);
            if (e > s.r3) {
                throw new Fault(-28);
            }
            if (e > s.r2 && word >= s.gates) {
                throw new Fault(-27);
            }
            return Math.min(Math.max(e, s.r1), s.r2);
        }

        /** True: it halted. */
        boolean step() {
            Seg here = at(segment, word);
            ask(here.go(ring));
            Word there = here.words[word];
            if (there == null) {
                throw new Fault(-23);
            }
            if (!(there instanceof Act)) {
                throw new Fault(-24);
            }
            Act act = (Act) there;
            if (act.what() == 0) {
                return true;
            }
            int next = word + 1;
            switch (act.what()) {
                case 1 -> a = numberAt(operand(segment, act.w(), ring, true));
                case 2 -> putAt(operand(segment, act.w(), ring, true), a);
                case 3 -> a += numberAt(operand(segment, act.w(), ring, true));
                case 4 -> {
                    Place to = operand(segment, act.w(), ring, true);
                    ask(at(to.segment(), to.word()).go(to.e()));
                    segment = to.segment();
                    next = to.word();
                    ring = to.e();
                }
                case 5 -> next = call(act, next);
                case 6 -> next = goBack();
                case 7 -> {
                    Frame f = latestWith(act.w());
                    Place p = f.places.get(act.w());
                    a = f.outward ? f.copies[act.w()]
                        : numberAt(new Place(p.segment(), p.word(), Math.max(p.e(), ring)));
                }
                case 8 -> {
                    Frame f = latestWith(act.w());
                    Place p = f.places.get(act.w());
                    if (f.outward) {
                        f.copies[act.w()] = a;
                        f.set[act.w()] = true;
                    } else {
                        putAt(new Place(p.segment(), p.word(), Math.max(p.e(), ring)), a);
                    }
                }
                default -> next = a == 0 ? act.w() : next;
            }
            word = next;
            return false;
        }

        private int call(Act act, int behind) {
            Place to = operand(segment, act.w(), ring, true);
            int into = entered(to.segment(), to.word(), to.e());
            Frame f = new Frame();
            f.segment = segment;
            f.word = behind;
            f.ring = ring;
            f.outward = to.e() < segs[to.segment()].r1;
            for (int i = 0; i < act.n(); i++) {
                f.places.add(operand(segment, act.w() + 1 + i, ring, true));
            }
            for (int i = 0; f.outward && i < act.n(); i++) {
                f.copies[i] = numberAt(f.places.get(i));
            }
            if (stacks.get(into).size() == 6) {
                throw new Fault(-29);
            }
            stacks.get(into).add(f);
            segment = to.segment();
            ring = into;
            return to.word();
        }

        private int goBack() {
            List<Frame> stack = stacks.get(ring);
            if (stack.isEmpty()) {
                throw new Fault(-30);
            }
            Frame f = stack.get(stack.size() - 1);
            World before = copy();
            for (int i = 0; i < f.places.size(); i++) {
                if (f.set[i]) {
                    try {
                        putAt(f.places.get(i), f.copies[i]);
                    } catch (Fault fault) {
                        segs = before.segs;
                        throw fault;
                    }
                }
            }
            stack.remove(stack.size() - 1);
            segment = f.segment;
            ring = f.ring;
            return f.word;
        }

        private Frame latestWith(int i) {
            List<Frame> stack = stacks.get(ring);
            if (stack.isEmpty() || i >= stack.get(stack.size() - 1).places.size()) {
                throw new Fault(-31);
            }
            return stack.get(stack.size() - 1);
        }

        /** STEPS and WHY. */
        int[] run(int n) {
            for (int steps = 0; steps < n; steps++) {
                try {
                    if (step()) {
                        return new int[] {steps + 1, 1};
                    }
                } catch (Fault fault) {
                    return new int[] {steps, fault.code};
                }
            }
            return new int[] {n, 0};
        }
    }

    private World world = new World();
    private World kept;
    private int why;
    private final StringBuilder tape = new StringBuilder();

    Model() {
        Dir root = new Dir();
        root.quota = 64;
        world.dirs.add(root);
        for (int r = 0; r < 8; r++) {
            world.stacks.add(new ArrayList<>());
        }
    }

    private boolean isDir(int d) {
        return d >= 0 && d < world.dirs.size();
    }

    private boolean isSeg(int s) {
        return s >= 0 && s < 16 && world.segs[s] != null;
    }

    private static boolean in(int v, int least, int most) {
        return v >= least && v <= most;
    }

    int directory(int above) {
        if (!isDir(above)) {
            return BAD;
        }
        if (world.dirs.size() == 8) {
            return FULL;
        }
        Dir d = new Dir();
        d.above = above;
        world.dirs.add(d);
        return world.dirs.size() - 1;
    }

    int segment(int directory, int name, int length) {
        if (length < 0) {
            return -14;
        }
        if (!isDir(directory) || !in(name, 0, 25) || !in(length, 1, 24)) {
            return BAD;
        }
        int free = Arrays.asList(world.segs).indexOf(null);
        if (free < 0) {
            return FULL;
        }
        for (Seg s : world.segs) {
            if (s != null && s.directory == directory && s.name == name) {
                return STATE;
            }
        }
        Seg s = new Seg();
        s.directory = directory;
        s.name = name;
        s.words = new Word[length];
        world.segs[free] = s;
        if (!world.fits()) {
            world.segs[free] = null;
            return STATE;
        }
        s.serial = ++world.made;
        return free;
    }

    int drop(int segment) {
        if (!isSeg(segment)) {
            return BAD;
        }
        int records = world.segs[segment].records();
        world.segs[segment] = null;
        return records;
    }

    int resize(int segment, int length) {
        if (length < 0) {
            return -14;
        }
        if (!isSeg(segment) || !in(length, 1, 24)) {
            return BAD;
        }
        Seg s = world.segs[segment];
        Word[] before = s.words;
        s.words = Arrays.copyOf(before, length);
        if (!world.fits()) {
            s.words = before;
            return STATE;
        }
        s.gates = Math.min(s.gates, length);
        return before.length;
    }

    int rename(int segment, int name) {
        if (!isSeg(segment) || !in(name, 0, 25)) {
            return BAD;
        }
        Seg s = world.segs[segment];
        for (Seg o : world.segs) {
            if (o != null && o != s && o.directory == s.directory && o.name == name) {
                return STATE;
            }
        }
        int before = s.name;
        s.name = name;
        return before;
    }

    int brackets(int segment, int rrr) {
        if (!isSeg(segment) || !in(rrr, 0, 777)) {
            return BAD;
        }
        String told = String.format("%03d", rrr);
        if (!told.matches("[0-7]{3}") || told.charAt(0) > told.charAt(1) || told.charAt(1) > told.charAt(2)) {
            return BAD;
        }
        Seg s = world.segs[segment];
        int before = Integer.parseInt("" + s.r1 + s.r2 + s.r3);
        s.r1 = told.charAt(0) - '0';
        s.r2 = told.charAt(1) - '0';
        s.r3 = told.charAt(2) - '0';
        return before;
    }

    int set(int segment, int what, int v) {
        if (!isSeg(segment) || !in(what, 0, 1)) {
            return BAD;
        }
        Seg s = world.segs[segment];
        if (!in(v, 0, what == 0 ? 7 : s.words.length)) {
            return BAD;
        }
        int before = what == 0 ? s.may : s.gates;
        if (what == 0) {
            s.may = v;
        } else {
            s.gates = v;
        }
        return before;
    }

    int quota(int directory, int n) {
        if (!isDir(directory) || directory == 0) {
            return BAD;
        }
        World then = world.copy();
        Dir to = then.dirs.get(directory);
        int cell = then.cellOf(to.above);
        Dir from = then.dirs.get(cell);
        long more = (long) to.quota + n;
        long less = (long) from.quota - n;
        if (more < 0 || less < 0 || cell == 0 && less < 1) {
            return STATE;
        }
        to.quota = (int) more;
        from.quota = (int) less;
        if (!then.fits()) {
            return STATE;
        }
        world = then;
        return to.quota;
    }

    int cell(int directory, int what) {
        if (!isDir(directory) || !in(what, 0, 4)) {
            return BAD;
        }
        int cell = world.cellOf(directory);
        int held = (int) Arrays.stream(world.segs).filter(s -> s != null && s.directory == directory).count();
        int above = directory == 0 ? NOT : world.dirs.get(directory).above;
        return new int[] {above, world.dirs.get(directory).quota, world.used(cell), cell, held}[what];
    }

    int of(int segment, int what) {
        if (!isSeg(segment) || !in(what, 0, 9)) {
            return BAD;
        }
        Seg s = world.segs[segment];
        return new int[] {s.directory, s.name, s.words.length, s.r1, s.r2, s.r3, s.may, s.gates, s.serial,
            s.records()}[what];
    }

    int rule(int directory) {
        if (directory == -1) {
            world.rules.clear();
            return 0;
        }
        if (!isDir(directory)) {
            return BAD;
        }
        if (world.rules.size() == 4) {
            return FULL;
        }
        world.rules.add(directory);
        return world.rules.size();
    }

    int lookup(int segment, int name) {
        return !isSeg(segment) || !in(name, 0, 25) ? BAD : world.lookup(segment, name);
    }

    private int become(int segment, int word, boolean good, Word told) {
        if (!isSeg(segment) || !good) {
            return BAD;
        }
        Seg s = world.segs[segment];
        if (!in(word, 0, s.words.length - 1)) {
            return -13;
        }
        s.words[word] = told;
        return 1;
    }

    int number(int segment, int word, int v) {
        return become(segment, word, true, new Num(v));
    }

    int pointer(int segment, int word, int srw, boolean indirect) {
        int s = Math.floorDiv(srw, 1000);
        int r = Math.floorMod(srw, 1000) / 100;
        int w = Math.floorMod(srw, 100);
        return become(segment, word, in(s, 0, 15) && in(r, 0, 7) && in(w, 0, 23), new Ptr(r, s, w, indirect, null));
    }

    int link(int segment, int word, int name, int to) {
        return become(segment, word, in(name, 0, 25) && in(to, 0, 23), new Link(name, to));
    }

    int act(int segment, int word, int what, int w, int n) {
        return become(segment, word, in(what, 0, 9) && in(w, 0, 23) && in(n, 0, 3), new Act(what, w, n));
    }

    int word(int segment, int word, int part) {
        if (!isSeg(segment) || !in(part, 0, 2) || !in(word, 0, world.segs[segment].words.length - 1)) {
            return VOID;
        }
        Word w = world.segs[segment].words[word];
        int[] told = {0, 0, 0};
        if (w instanceof Num n) {
            told = new int[] {1, n.v(), 0};
        } else if (w instanceof Link l) {
            told = new int[] {4, 100 * l.name() + l.word(), 0};
        } else if (w instanceof Act a) {
            told = new int[] {6, 1000 * a.what() + 10 * a.w() + a.n(), 0};
        } else if (w instanceof Ptr p) {
            int kind = p.known() != null ? 5 : p.indirect() ? 3 : 2;
            int known = p.known() == null ? 0 : 100 * p.known().name() + p.known().word();
            told = new int[] {kind, 1000 * p.segment() + 100 * p.ring() + p.word(), known};
        }
        return told[part];
    }

    int feed(int letter) {
        if (!in(letter, 0, 255)) {
            return BAD;
        }
        if (tape.length() == 120) {
            return FULL;
        }
        tape.append((char) letter);
        return tape.length();
    }

    private static final String[] WORDS = {"halt", "take", "put", "add", "go", "call", "back", "arg", "set", "test",
        "num", "ptr", "ind", "link", "none"};
    private static final String[] PARTS = {"", "W", "W", "W", "W", "WN", "", "K", "K", "W", "V", "RSW", "RSW", "LW",
        ""};

    /** One LINE, from a place on to the ; or the end; throws the place of a FAULT. */
    private static Word lineAt(String line, int from) {
        Matcher m = Pattern.compile("[a-z]*").matcher(line);
        m.lookingAt();
        int k = Arrays.asList(WORDS).indexOf(m.group());
        if (k < 0) {
            throw new Fault(from);
        }
        int at = m.end();
        List<Integer> told = new ArrayList<>();
        for (char part : PARTS[k].toCharArray()) {
            if (at == line.length() || line.charAt(at) != ' ') {
                throw new Fault(from + at);
            }
            at++;
            String shape = part == 'V' ? "(-?)([0-9]*)" : part == 'L' ? "()([a-z]*)" : "()([0-9]*)";
            m = Pattern.compile(shape).matcher(line).region(at, line.length());
            m.lookingAt();
            String got = m.group(2);
            int most = switch (part) {
                case 'V' -> 9999;
                case 'S' -> 15;
                case 'R' -> 7;
                case 'W' -> 23;
                case 'N' -> 3;
                default -> 2;
            };
            boolean fine = part == 'L' ? got.length() == 1
                : in(got.length(), 1, part == 'V' ? 4 : 2) && Integer.parseInt(got) <= most;
            if (!fine) {
                throw new Fault(from + m.start(2));
            }
            int v = part == 'L' ? got.charAt(0) - 'a' : Integer.parseInt(got);
            told.add(m.group(1).isEmpty() ? v : -v);
            at = m.end();
        }
        if (at < line.length()) {
            throw new Fault(from + at);
        }
        return switch (k) {
            case 10 -> new Num(told.get(0));
            case 11, 12 -> new Ptr(told.get(0), told.get(1), told.get(2), k == 12, null);
            case 13 -> new Link(told.get(0), told.get(1));
            case 14 -> null;
            default -> new Act(k, told.size() > 0 ? told.get(0) : 0, told.size() > 1 ? told.get(1) : 0);
        };
    }

    int load(int segment, int word) {
        if (!isSeg(segment) || word < 0) {
            return BAD;
        }
        String text = tape.toString();
        tape.setLength(0);
        List<Word> words = new ArrayList<>();
        int from = 0;
        try {
            for (String line : text.split(";", -1)) {
                words.add(lineAt(line, from));
                from += line.length() + 1;
            }
        } catch (Fault fault) {
            return -100 - fault.code;
        }
        Word[] into = world.segs[segment].words;
        if ((long) word + words.size() > into.length) {
            return -13;
        }
        for (int i = 0; i < words.size(); i++) {
            into[word + i] = words.get(i);
        }
        return words.size();
    }

    int unsnap(int segment) {
        if (!isSeg(segment)) {
            return BAD;
        }
        int n = 0;
        Word[] words = world.segs[segment].words;
        for (int w = 0; w < words.length; w++) {
            if (words[w] instanceof Ptr p && p.known() != null) {
                words[w] = p.known();
                n++;
            }
        }
        return n;
    }

    int start(int segment, int word, int ring) {
        if (!in(segment, 0, 15) || !in(word, 0, 23) || !in(ring, 0, 7)) {
            return BAD;
        }
        world.segment = segment;
        world.word = word;
        world.ring = ring;
        world.a = 0;
        for (List<Frame> stack : world.stacks) {
            stack.clear();
        }
        return 1;
    }

    int run(int n) {
        if (!in(n, 1, 200)) {
            return BAD;
        }
        int[] ended = world.run(n);
        why = ended[1];
        return ended[0];
    }

    int why() {
        return why;
    }

    int machine(int what) {
        if (in(what, 10, 17)) {
            return world.stacks.get(what - 10).size();
        }
        return in(what, 0, 3) ? new int[] {world.segment, world.word, world.ring, world.a}[what] : VOID;
    }

    int frame(int ring, int k, int what) {
        if (!in(ring, 0, 7) || k < 0 || !in(what, 0, 4)) {
            return BAD;
        }
        if (k >= world.stacks.get(ring).size()) {
            return NOT;
        }
        Frame f = world.stacks.get(ring).get(k);
        return new int[] {f.segment, f.word, f.ring, f.places.size(), f.outward ? 1 : 0}[what];
    }

    int dry(int n, int what) {
        if (!in(n, 1, 200) || !in(what, 0, 4)) {
            return VOID;
        }
        World thought = world.copy();
        int[] ended = thought.run(n);
        int frames = thought.stacks.stream().mapToInt(List::size).sum();
        return new int[] {ended[0], ended[1], thought.a, thought.ring, frames}[what];
    }

    int operand(int segment, int word, int ring, int what) {
        if (!isSeg(segment) || !in(word, 0, world.segs[segment].words.length - 1) || !in(ring, 0, 7)
            || !in(what, 0, 2)) {
            return BAD;
        }
        try {
            Place p = world.operand(segment, word, ring, false);
            return new int[] {p.e(), p.segment(), p.word()}[what];
        } catch (Fault fault) {
            return fault.code;
        }
    }

    int enters(int segment, int word, int ring) {
        if (!in(segment, 0, 15) || !in(word, 0, 23) || !in(ring, 0, 7)) {
            return BAD;
        }
        try {
            return world.entered(segment, word, ring);
        } catch (Fault fault) {
            return fault.code;
        }
    }

    int access(int segment, int ring) {
        if (!isSeg(segment) || !in(ring, 0, 7)) {
            return BAD;
        }
        Seg s = world.segs[segment];
        return (s.read(ring) ? 1 : 0) | (s.write(ring) ? 2 : 0) | (s.go(ring) ? 4 : 0);
    }

    int ways(int a, int b) {
        if (!in(a, 0, 7) || !in(b, -1, 7)) {
            return BAD;
        }
        TreeSet<Integer> reached = new TreeSet<>(List.of(a));
        for (int calls = 0; ; calls++) {
            if (reached.contains(b)) {
                return calls;
            }
            TreeSet<Integer> then = new TreeSet<>(reached);
            for (int ring : reached) {
                for (int s = 0; s < 16; s++) {
                    for (int w = 0; isSeg(s) && w < 24; w++) {
                        int into = enters(s, w, ring);
                        if (into >= 0) {
                            then.add(into);
                        }
                    }
                }
            }
            if (then.equals(reached)) {
                return b == -1 ? reached.first() : NOT;
            }
            reached = then;
        }
    }

    int stale() {
        int n = 0;
        for (int s = 0; s < 16; s++) {
            for (int w = 0; isSeg(s) && w < world.segs[s].words.length; w++) {
                if (world.segs[s].words[w] instanceof Ptr p && p.known() != null
                    && world.lookup(s, p.known().name()) != p.segment()) {
                    n++;
                }
            }
        }
        return n;
    }

    int drawn(int seed, int n) {
        if (!in(n, 1, 200)) {
            return BAD;
        }
        int granted = 0;
        int z = seed;
        for (int i = 0; i < n; i++) {
            z = z * 1103515245 + 12345;
            int has = access((z >>> 11) & 15, (z >>> 8) & 7);
            granted += has > 0 && (has >> (z >>> 16) % 3 & 1) == 1 ? 1 : 0;
        }
        return granted;
    }

    int image() {
        kept = world.copy();
        return count(1);
    }

    int back() {
        if (kept == null) {
            return STATE;
        }
        world = kept.copy();
        return count(1);
    }

    int count(int what) {
        int segments = 0;
        int records = 0;
        int snapped = 0;
        for (Seg s : world.segs) {
            if (s != null) {
                segments++;
                records += s.records();
                for (Word w : s.words) {
                    snapped += w instanceof Ptr p && p.known() != null ? 1 : 0;
                }
            }
        }
        int cells = (int) world.dirs.stream().filter(d -> d.quota > 0).count();
        int quota = world.dirs.stream().mapToInt(d -> d.quota).sum();
        return in(what, 0, 8) ? new int[] {world.dirs.size(), segments, world.rules.size(), tape.length(), cells, quota,
            records, snapped, world.made}[what] : BAD;
    }
}
