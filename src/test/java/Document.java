import java.io.IOException;
import java.nio.file.Files;
import java.nio.file.Path;
import java.util.LinkedHashMap;
import java.util.List;
import java.util.Map;

/** The parts of ../shared/DOC.md that promise something, and what of them no test has quoted. */
final class Document {
    private static final Path PLACE = Path.of("../shared/DOC.md");

    private final Map<String, String> parts = new LinkedHashMap<>();

    /** Each quote stands in its part, and no sentence of a part is left without one. */
    static void compare(Checks c) throws IOException {
        if (!Files.exists(PLACE)) {
            System.out.println("there is no " + PLACE + ": what the tests quote is not compared with it");
            return;
        }
        Document d = new Document();
        d.part(Files.readAllLines(PLACE));
        c.says("README.md", "every sentence has a test");
        for (Checks.Quote q : List.copyOf(c.quotes())) {
            d.strike(c, q);
        }
        for (Map.Entry<String, String> part : d.parts.entrySet()) {
            c.due("what no test quotes of " + part.getKey(), part.getValue().strip(), "");
        }
        c.due("parts of the document", d.parts.size(), 2 + 5 + 23);
    }

    private void part(List<String> lines) {
        String name = "";
        for (String line : lines) {
            if (line.startsWith("## ")) {
                name = line.startsWith("## Promise ") ? line.substring(3, line.indexOf(':')) : line.substring(3);
            } else if (name.startsWith("Terms") && line.matches("\\d\\. .*")) {
                name = "Terms " + line.charAt(0);
                add(name, line.substring(3));
            } else if (line.startsWith("An object is used for")) {
                add("Use", line);
            } else if (line.startsWith("Where several refusals")) {
                name = "Refusals";
                add(name, line);
            } else if (line.startsWith("`") && name.startsWith("Promise ")) {
                add(name, line.substring(line.indexOf("`: ") + 3));
            } else if (name.matches("Terms \\d") && !line.startsWith("```")) {
                add(name, line);
            }
        }
    }

    private void add(String name, String words) {
        parts.merge(name, words.strip(), (a, b) -> (a + " " + b).strip());
    }

    private void strike(Checks c, Checks.Quote q) {
        String left = parts.get(q.part());
        if (left == null) {
            return;
        }
        int at = left.indexOf(q.words());
        c.due("\"" + q.words() + "\" stands in " + q.part() + " of the document, once for each quote", at >= 0, true);
        if (at >= 0) {
            parts.put(q.part(), left.substring(0, at) + left.substring(at + q.words().length()));
        }
    }
}
