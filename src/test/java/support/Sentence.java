import java.io.IOException;
import java.nio.file.Files;
import java.nio.file.Path;
import java.util.ArrayList;
import java.util.LinkedHashMap;
import java.util.List;
import java.util.Map;

/**
 * The document's sentences: each test names, beside it, the one that it would fail for, and in the
 * end the document itself is held against what was named, so that no sentence is left out.
 */
final class Sentence {
    private static final List<String[]> NAMED = new ArrayList<>();
    private static int looksBefore = 0;
    private static boolean open = false;

    private Sentence() {
    }

    /** The test of a sentence begins; where is 'Terms', 'Promise 1' or another heading. */
    static void of(String where, String words) {
        close();
        NAMED.add(new String[] {where, words});
        Expect.beside(where + ", '" + words + "': ");
        looksBefore = Expect.looks();
        open = true;
    }

    /** Words that tell no boundary case: what they say shows in the tests of others. */
    static void plain(String where, String words) {
        NAMED.add(new String[] {where, words});
    }

    private static void close() {
        if (open) {
            Expect.note(Expect.looks() > looksBefore, "no answer was looked at");
        }
        open = false;
        Expect.beside("");
    }

    /** Every word below a heading must have been named, and what was named must stand there. */
    static void cover(Path document) throws IOException {
        close();
        Map<String, String> sections = sections(Files.readString(document));
        for (String[] named : NAMED) {
            String text = sections.getOrDefault(named[0], "");
            Expect.note(text.contains(named[1]), "the document does not say below '" + named[0] + "': " + named[1]);
        }
        for (String where : sections.keySet()) {
            String left = left(where, sections.get(where));
            Expect.note(!left.matches("(?s).*[A-Za-z0-9].*"), "no test names, below '" + where + "': " + left);
        }
    }

    private static Map<String, String> sections(String document) {
        Map<String, String> sections = new LinkedHashMap<>();
        for (String part : document.split("(?m)^## ")) {
            String[] halves = part.split("\n", 2);
            String heading = halves[0].replaceAll("^(Promise \\d+):.*", "$1").trim();
            boolean told = halves.length == 2 && !heading.startsWith("# ") && !heading.equals("The public face");
            if (told) {
                sections.put(heading, halves[1].replace("```text", "").replace("```", "")
                        .replaceAll("`[^`]*`", "").replaceAll("\\s+", " "));
            }
        }
        return sections;
    }

    private static String left(String where, String text) {
        boolean[] covered = new boolean[text.length()];
        for (String[] named : NAMED) {
            for (int at = text.indexOf(named[1]); named[0].equals(where) && at >= 0; at = text.indexOf(named[1], at + 1)) {
                java.util.Arrays.fill(covered, at, at + named[1].length(), true);
            }
        }
        StringBuilder left = new StringBuilder();
        for (int i = 0; i < text.length(); i++) {
            left.append(covered[i] ? ' ' : text.charAt(i));
        }
        return left.toString().replaceAll("\\s+", " ").trim();
    }
}
