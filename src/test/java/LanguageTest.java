import java.io.IOException;
import java.lang.reflect.Field;
import java.lang.reflect.Method;
import java.lang.reflect.Modifier;
import java.nio.file.Files;
import java.nio.file.Path;
import java.util.ArrayList;
import java.util.Arrays;
import java.util.List;
import java.util.Set;
import java.util.TreeSet;
import java.util.regex.Matcher;
import java.util.regex.Pattern;

/** The rules of LANGUAGE.md that the compiled class and its source can tell. Run it from the project's folder. */
public final class LanguageTest {
    private static final List<String> wrongs = new ArrayList<>();

    private static final String[] FACE = {
        "directory(int)", "segment(int,int,int)", "drop(int)", "resize(int,int)", "rename(int,int)",
        "brackets(int,int)", "set(int,int,int)", "quota(int,int)", "cell(int,int)", "of(int,int)", "rule(int)",
        "lookup(int,int)", "number(int,int,int)", "pointer(int,int,int,boolean)", "link(int,int,int,int)",
        "act(int,int,int,int,int)", "word(int,int,int)", "feed(int)", "load(int,int)", "unsnap(int)",
        "start(int,int,int)", "run(int)", "why()", "machine(int)", "frame(int,int,int)", "dry(int,int)",
        "operand(int,int,int,int)", "enters(int,int,int)", "access(int,int)", "ways(int,int)", "stale()",
        "drawn(int,int)", "image()", "back()", "count(int)"};

    public static void main(String[] args) throws IOException {
        face();
        classes();
        source(Files.readString(Path.of("src/main/java/RingGates.java")));
        wrongs.forEach(wrong -> System.out.println("LanguageTest: " + wrong));
        System.out.println("LanguageTest: " + wrongs.size() + " wrong");
        if (!wrongs.isEmpty()) {
            System.exit(1);
        }
    }

    private static void wrongIf(boolean wrong, String what) {
        if (wrong) {
            wrongs.add(what);
        }
    }

    private static String told(Method m) {
        List<String> types = new ArrayList<>();
        for (Class<?> type : m.getParameterTypes()) {
            types.add(type.getSimpleName());
        }
        return m.getName() + "(" + String.join(",", types) + ")";
    }

    private static void face() {
        Class<?> main = RingGates.class;
        wrongIf(!Modifier.isPublic(main.getModifiers()) || !Modifier.isFinal(main.getModifiers()), "class modifiers");
        Set<String> seen = new TreeSet<>();
        for (Method m : main.getDeclaredMethods()) {
            if (!Modifier.isPrivate(m.getModifiers())) {
                seen.add(told(m));
                wrongIf(m.getReturnType() != int.class || !Modifier.isPublic(m.getModifiers()), "face of " + told(m));
            }
        }
        wrongIf(!seen.equals(new TreeSet<>(Arrays.asList(FACE))), "rule 1: the face is " + seen);
        Set<String> constants = new TreeSet<>();
        for (Field f : main.getDeclaredFields()) {
            if (!Modifier.isPrivate(f.getModifiers())) {
                constants.add(f.getName());
            }
        }
        wrongIf(!constants.equals(Set.of("BAD", "NOT", "FULL", "STATE", "VOID")), "rule 1: constants " + constants);
    }

    private static void classes() {
        List<Class<?>> all = new ArrayList<>(List.of(RingGates.class.getDeclaredClasses()));
        for (Class<?> inside : all) {
            wrongIf(!Modifier.isStatic(inside.getModifiers()), "rule 2: " + inside + " is not static");
        }
        all.add(RingGates.class);
        wrongIf(all.size() > 12, "rule 11: more than 12 classes");
        Set<String> publicNames = new TreeSet<>();
        for (String call : FACE) {
            publicNames.add(call.substring(0, call.indexOf('(')));
        }
        for (Class<?> c : all) {
            int fields = 0;
            for (Field f : c.getDeclaredFields()) {
                boolean isStatic = Modifier.isStatic(f.getModifiers());
                wrongIf(isStatic && !Modifier.isFinal(f.getModifiers()), "rule 5: " + f + " is not final");
                fields += isStatic ? 0 : 1;
            }
            wrongIf(fields > 20, "rule 11: " + c + " has more than 20 fields");
            for (Method m : c.getDeclaredMethods()) {
                wrongIf(m.getParameterCount() > 7, "rule 11: " + m + " takes more than 7 parameters");
                wrongIf(!Modifier.isPublic(m.getModifiers()) && publicNames.contains(m.getName()),
                    "rule 1: " + m + " bears the name of a public one");
                wrongIf(m.isSynthetic(), "rule 2: " + m + " is of a lambda or the like");
            }
        }
    }

    private static void source(String source) {
        wrongIf(!source.chars().allMatch(c -> c == '\n' || c >= ' ' && c < 127), "rule 4: a sign that is not plain");
        String code = source.replaceAll("(?s)/\\*.*?\\*/", "").replaceAll("//[^\n]*", "");
        String[] banned = {"\\bthrows?\\b", "\\btry\\b", "\\bcatch\\b", "\\bfinally\\b", "\\bsynchronized\\b",
            "\\bassert\\b", "->", "::", "\\bimport\\b", "\\bpackage\\b", "\\bvolatile\\b", "\\bnative\\b", "Exact\\b",
            "\\bObject\\b", "\\bSystem\\b", "\\bThread\\b", "\\bhashCode\\b", "\\btoString\\b", "@", "\"\\s*\\+",
            "\\+\\s*\""};
        for (String word : banned) {
            wrongIf(Pattern.compile(word).matcher(code).find(), "the source has " + word);
        }
        methodLengths(source);
    }

    private static void methodLengths(String source) {
        String[] lines = source.split("\n");
        Pattern head = Pattern.compile("^( +)[\\w\\[\\]<> ]+\\(.*\\) \\{$");
        for (int i = 0; i < lines.length; i++) {
            Matcher m = head.matcher(lines[i]);
            if (m.matches() && m.group(1).length() <= 8 && !lines[i].matches("\\s+(if|for|while|switch)\\b.*")) {
                int end = i;
                while (!lines[end].equals(m.group(1) + "}")) {
                    end++;
                }
                wrongIf(end - i > 60, "rule 11: more than 60 lines: " + lines[i].trim());
            }
        }
    }
}
