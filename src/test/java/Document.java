import java.io.IOException;
import java.nio.charset.StandardCharsets;
import java.nio.file.Files;
import java.nio.file.Paths;
import java.util.ArrayList;
import java.util.List;
import java.util.regex.Matcher;
import java.util.regex.Pattern;

/**
 * A section of the document: its Terms, or one of its promises. A test quotes, to the letter, the words that it looks
 * at; in the end no word of a section may be left that no test has quoted.
 */
final class Document {
    interface Test {
        void run(Check c);
    }

    private static final List<Document> SECTIONS = read();

    private final String name;
    private final String text;
    private final boolean[] quoted;

    private Document(String name, String text) {
        this.name = name;
        this.text = plain(text);
        quoted = new boolean[this.text.length()];
    }

    static Document terms() {
        return SECTIONS.get(0);
    }

    static Document promise(int number) {
        return SECTIONS.get(number);
    }

    private static String plain(String s) {
        return s.replaceAll("\\s+", " ").trim();
    }

    private static List<Document> read() {
        String all;
        try {
            all = new String(Files.readAllBytes(Paths.get("../shared/DOC.md")), StandardCharsets.UTF_8);
        } catch (IOException e) {
            throw new IllegalStateException("the document is not there", e);
        }
        List<Document> sections = new ArrayList<>();
        String terms = all.substring(all.indexOf("\n## Terms\n") + 10, all.indexOf("\n## Promise 1:"));
        sections.add(new Document("Terms", terms.replace("====", "").replaceAll("```\\w*", "")));
        Matcher m = Pattern.compile("\n## Promise (\\d+): \\w+.*\n\n`[^`]*`: (.*)\n").matcher(all);
        while (m.find()) {
            Check.same("the next promise", Integer.parseInt(m.group(1)), sections.size());
            sections.add(new Document("Promise " + m.group(1), m.group(2)));
        }
        Check.same("promises", sections.size() - 1, 52);
        return sections;
    }

    // Runs a test of what the document says there, on an object of its own.
    Document says(String quote, Test test) {
        Check.saying(name + ": " + plain(quote));
        int at = placeOf(plain(quote));
        Check.same("the document says so", at >= 0, true);
        for (int k = Math.max(at, 0); k < at + plain(quote).length(); k++) {
            quoted[k] = true;
        }
        try {
            test.run(new Check());
        } catch (RuntimeException e) {
            e.printStackTrace(System.out);
            Check.same("it throws " + e, true, false);
        }
        Check.saying("");
        return this;
    }

    // Where a quote stands: where it was not quoted yet, if it stands several times.
    private int placeOf(String quote) {
        int first = text.indexOf(quote);
        for (int at = first; at >= 0; at = text.indexOf(quote, at + 1)) {
            if (!quoted[at]) {
                return at;
            }
        }
        return first;
    }

    static void allQuoted() {
        for (Document section : SECTIONS) {
            StringBuilder left = new StringBuilder();
            for (int k = 0; k <= section.text.length(); k++) {
                boolean end = k == section.text.length() || section.quoted[k];
                if (!end) {
                    left.append(section.text.charAt(k));
                    continue;
                }
                boolean words = Pattern.compile("\\w").matcher(left).find();
                Check.same(section.name + " has words that no test quotes: " + left, words, false);
                left.setLength(0);
            }
        }
    }
}
