import java.io.IOException;
import java.nio.file.Files;
import java.nio.file.Path;
import java.util.ArrayList;
import java.util.LinkedHashMap;
import java.util.List;
import java.util.Map;

/**
 * Sentences of the document that name a boundary case, each with runs of calls of its own.
 * A sentence is named by its section and quoted; what is quoted must stand in the document,
 * and at the end every word of its terms and promises must have been quoted.
 */
final class Edges {
    private final Check check = new Check("edges");
    private final Map<String, String> sections;
    private final Map<String, boolean[]> quoted = new LinkedHashMap<>();
    private int sentences = 0;

    /** The document's path; where it is not there, the quotes are not held against it. */
    Edges(Path document) throws IOException {
        sections = Files.exists(document) ? sectionsOf(Files.readString(document)) : null;
        if (sections == null) {
            System.out.println("edges: there is no " + document + ", so the quotes are not held against it");
        }
    }

    /** Each run is told as EdgeRun reads it, and has a new object. */
    void sentence(String section, String words, String... runs) {
        sentences++;
        String name = section + " '" + words + "'";
        check.holds(name + " has a run", runs.length > 0);
        quote(section, words);
        for (String run : runs) {
            new EdgeRun(name, check).all(run);
        }
    }

    void end() {
        if (sections != null) {
            for (Map.Entry<String, String> s : sections.entrySet()) {
                everyWordQuoted(s.getKey(), s.getValue());
            }
        }
        System.out.println("edges: " + sentences + " sentences");
        check.end();
    }

    private void quote(String section, String words) {
        if (sections == null) {
            return;
        }
        String text = sections.getOrDefault(section, "");
        boolean[] marks = quoted.computeIfAbsent(section, s -> new boolean[text.length()]);
        int at = text.indexOf(words);
        check.holds(section + " says '" + words + "'", at >= 0);
        for (; at >= 0; at = text.indexOf(words, at + 1)) {
            for (int n = 0; n < words.length(); n++) {
                marks[at + n] = true;
            }
        }
    }

    private void everyWordQuoted(String section, String text) {
        boolean[] marks = quoted.getOrDefault(section, new boolean[text.length()]);
        StringBuilder left = new StringBuilder();
        for (int n = 0; n < text.length(); n++) {
            if (Character.isLetterOrDigit(text.charAt(n)) && !marks[n]) {
                left.append(text.charAt(n));
            } else if (left.length() > 0 && left.charAt(left.length() - 1) != ' ') {
                left.append(' ');
            }
        }
        check.holds(section + " has no test for: " + left, left.length() == 0);
    }

    /** Sections by their names: "What it is", "Terms", "Terms 1" to "Terms 4", "Promise 1" to "Promise 45". */
    private static Map<String, String> sectionsOf(String document) {
        Map<String, String> all = new LinkedHashMap<>();
        for (String part : document.split("\n## ")) {
            int line = part.indexOf('\n');
            String title = line < 0 ? part : part.substring(0, line);
            String body = line < 0 ? "" : plain(part.substring(line));
            if (title.equals("What it is")) {
                all.put(title, body.substring(body.indexOf("An object")));
            } else if (title.equals("Terms")) {
                terms(all, body.substring(0, body.indexOf(" Ahead of the calls")));
            } else if (title.startsWith("Promise ")) {
                // Behind the signature, which FaceTest looks at.
                all.put(title.substring(0, title.indexOf(':')), body.substring(body.indexOf("`: ") + 3));
            }
        }
        return all;
    }

    private static void terms(Map<String, String> all, String body) {
        List<String> parts = new ArrayList<>(List.of(body.split("======== [1-4] ")));
        for (int n = 0; n < parts.size(); n++) {
            all.put(n == 0 ? "Terms" : "Terms " + n, parts.get(n));
        }
    }

    private static String plain(String text) {
        return text.replaceAll("```[a-z]*", " ").replaceAll("\\s+", " ").trim();
    }
}
