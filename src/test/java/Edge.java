import java.io.IOException;
import java.nio.file.Files;
import java.nio.file.Path;
import java.util.ArrayList;
import java.util.LinkedHashMap;
import java.util.List;
import java.util.Map;
import java.util.regex.Matcher;
import java.util.regex.Pattern;

/**
 * A sentence of the document, told with its promise, and a test of its own that would fail if it were broken.
 * The sentence must stand in the document, in the promise's section or else in the Terms; at the end every
 * number and every word of a boundary in the document must stand in a sentence that was told.
 */
final class Edge {
    private static final Pattern BOUNDARY = Pattern.compile("\\d+|\\b(NONE|refused|true|false|none|alone|beyond|below|above|more|fewer|enough"
        + "|without|latest|oldest|first|last|empty|free|ends|stays|goes|nothing|another|others|else|already|unlike|most|highest|counts)\\b");
    private static final Map<String, String> SECTIONS = new LinkedHashMap<>();
    private static final Map<String, boolean[]> TOLD = new LinkedHashMap<>();
    private static int edges = 0;

    static {
        try {
            read(Files.readString(Path.of("../shared/DOC.md")));
        } catch (IOException e) {
            throw new IllegalStateException(e);
        }
    }

    private Edge() {
    }

    private static void read(String text) {
        String[] parts = text.split("(?m)^## ");
        for (String part : parts) {
            int line = part.indexOf('\n');
            String name = part.substring(0, line).replaceAll(":.*", "").trim();
            String body = part.substring(line).replaceAll("```(text|java)?", " ").replaceAll("`", "").replaceAll("\\s+", " ").trim();
            SECTIONS.put(name, body);
            TOLD.put(name, new boolean[body.length()]);
        }
    }

    static void of(int promise, String sentence, Runnable test) {
        edges++;
        String name = "Promise " + promise;
        tell(name, sentence);
        Due.about = name + ", \"" + sentence + "\": ";
        int before = Due.asked();
        test.run();
        Due.is("a test asks", Due.asked() > before, true);
        Due.about = "";
    }

    private static void tell(String promise, String sentence) {
        for (String name : new String[] {promise, "Terms", "The public face", "What it is"}) {
            String body = SECTIONS.getOrDefault(name, "");
            int at = body.indexOf(sentence);
            if (at >= 0) {
                Due.is(promise + ", \"" + sentence + "\" stands there once", body.indexOf(sentence, at + 1), -1);
                for (int i = at; i < at + sentence.length(); i++) {
                    TOLD.get(name)[i] = true;
                }
                return;
            }
        }
        Due.is(promise + ", \"" + sentence + "\" stands in the document", false, true);
    }

    /** Each boundary that the document names must have been told; how many sentences were. */
    static void ends() {
        for (Map.Entry<String, String> section : SECTIONS.entrySet()) {
            String name = section.getKey();
            if (!name.startsWith("Promise") && !name.equals("Terms")) {
                continue;
            }
            String body = section.getValue();
            int from = name.equals("Terms") ? body.indexOf("I. A STORE") : body.indexOf(')') + 1;
            List<String> open = new ArrayList<>();
            Matcher m = BOUNDARY.matcher(body);
            while (m.find()) {
                if (m.start() >= from && !TOLD.get(name)[m.start()]) {
                    open.add("\"" + body.substring(Math.max(from, m.start() - 25), Math.min(body.length(), m.end() + 25)) + "\"");
                }
            }
            Due.is(name + " has boundaries that no test names: " + open, open.size(), 0);
        }
        System.out.println(edges + " sentences");
    }
}
