import java.io.IOException;
import java.nio.file.Files;
import java.nio.file.Path;
import java.util.ArrayList;
import java.util.List;

/** The document's text by promise (0: the Terms, with how long an object is used), and which of it tests have told. */
final class Sentences {
    private static final int PROMISES = 36;
    private final String[] texts = new String[PROMISES + 1];
    private final boolean[][] told = new boolean[PROMISES + 1][];

    Sentences(Path document) throws IOException {
        String all = Files.readString(document);
        for (int n = 0; n <= PROMISES; n++) {
            texts[n] = n == 0 ? terms(all) : promise(all, n);
            told[n] = new boolean[texts[n].length()];
        }
    }

    private static String terms(String all) {
        String used = "An object is used " + between(all, "\nAn object is used ", "\n") + "\n";
        String text = used + between(all, "\n## Terms\n", "\n## Promise 1:");
        // Headings, and the paragraphs that tell how the interface is parted, ask for nothing.
        return text.replaceAll("(?m)^Ahead of the calls .*$|^```.*$|======== [123]|^  (?=[A-Z])", "");
    }

    /** What a promise says, without its heading and the call that it is about. */
    private static String promise(String all, int n) {
        String text = between(all, "\n## Promise " + n + ": ", "\n## ");
        int call = text.indexOf("`: ");
        if (call < 0) {
            throw new IllegalStateException("promise " + n + " is not of the form that it had");
        }
        return text.substring(call + 3);
    }

    private static String between(String all, String from, String to) {
        int begin = all.indexOf(from);
        int end = begin < 0 ? -1 : all.indexOf(to, begin + from.length());
        if (end < 0) {
            throw new IllegalStateException("the document has no part from '" + from.trim() + "' to '" + to.trim() + "'");
        }
        return all.substring(begin + from.length(), end);
    }

    /** Notes that a sentence of promise n (0: of the Terms) is told; false, if the document doesn't have it there. */
    boolean tell(int n, String sentence) {
        int at = texts[n].indexOf(sentence);
        boolean found = at >= 0;
        while (at >= 0) {
            for (int i = at; i < at + sentence.length(); i++) {
                told[n][i] = true;
            }
            at = texts[n].indexOf(sentence, at + 1);
        }
        return found;
    }

    /** What no test has told: the stretches that hold a letter or a digit. */
    List<String> untold() {
        List<String> stretches = new ArrayList<>();
        for (int n = 0; n <= PROMISES; n++) {
            int from = 0;
            for (int i = 0; i <= texts[n].length(); i++) {
                if (i == texts[n].length() || told[n][i]) {
                    String stretch = texts[n].substring(from, i);
                    if (stretch.matches("(?s).*[A-Za-z0-9].*")) {
                        stretches.add((n == 0 ? "Terms: " : "promise " + n + ": ") + stretch.trim());
                    }
                    from = i + 1;
                }
            }
        }
        return stretches;
    }
}
