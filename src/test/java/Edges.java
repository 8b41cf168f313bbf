import java.nio.file.Files;
import java.nio.file.Path;
import java.util.BitSet;
import java.util.LinkedHashMap;
import java.util.Map;

/**
 * Every sentence of the document that names an edge, each by a test of its own. With an argument it
 * tells, too, which words of the document no test quotes.
 */
public final class Edges {
    private static final Path DOCUMENT = Path.of("../shared/DOC.md");

    public static void main(String[] args) throws Exception {
        EdgesOfSheets.all();
        EdgesOfTable.all();
        EdgesOfLessons.all();
        EdgesOfNevers.all();
        EdgesOfAsked.all();
        EdgesOfRefusals.all();
        if (Files.isReadable(DOCUMENT)) {
            compareWithDocument(args.length > 0);
        }
        System.out.println("Edges: " + Edge.passed + " passed, " + Edge.failed + " failed");
        System.exit(Edge.failed == 0 && Edge.passed > 0 ? 0 : 1);
    }

    /** Words that the document no longer has are told, and fail nothing: the answers are what counts. */
    private static void compareWithDocument(boolean tellUnquoted) throws Exception {
        Map<String, String> sections = sectionsOf(Files.readString(DOCUMENT));
        Map<String, BitSet> quoted = new LinkedHashMap<>();
        sections.keySet().forEach(name -> quoted.put(name, new BitSet()));
        for (Edge.Quote quote : Edge.quotes) {
            String text = sections.getOrDefault(quote.section(), "");
            int at = text.indexOf(quote.words());
            if (at < 0) {
                System.out.println("note: " + quote.section() + " does not say \"" + quote.words() + "\"");
            } else {
                quoted.get(quote.section()).set(at, at + quote.words().length());
            }
        }
        if (tellUnquoted) {
            sections.forEach((name, text) -> tellUnquoted(name, text, quoted.get(name)));
        }
    }

    /** "Terms 0" is what stands ahead of its first part; a promise's text begins behind its signature. */
    private static Map<String, String> sectionsOf(String document) {
        Map<String, String> sections = new LinkedHashMap<>();
        String name = "";
        for (String line : document.split("\n")) {
            if (line.startsWith("## Promise ")) {
                name = line.substring(3, line.indexOf(':'));
            } else if (line.startsWith("## ")) {
                name = line.equals("## Terms") ? "Terms 0" : "";
            } else if (line.startsWith("======== ")) {
                name = "Terms " + line.charAt(9);
            }
            if (!name.isEmpty() && !line.startsWith("## ") && !line.startsWith("```")) {
                String told = line.replaceFirst("^`[^`]*`: ", "").replaceFirst("^======== \\d ", "");
                sections.merge(name, told.trim(), (a, b) -> (a + " " + b).trim());
            }
        }
        return sections;
    }

    private static void tellUnquoted(String name, String text, BitSet quoted) {
        StringBuilder rest = new StringBuilder();
        for (int at = 0; at < text.length(); at++) {
            rest.append(quoted.get(at) ? '_' : text.charAt(at));
        }
        String words = rest.toString().replaceAll("_+", " .. ").trim();
        if (words.matches("(?s).*[A-Za-z].*")) {
            System.out.println("not quoted of " + name + ": " + words);
        }
    }
}
