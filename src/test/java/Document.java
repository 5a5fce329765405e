import java.io.IOException;
import java.nio.file.Files;
import java.nio.file.Path;
import java.util.ArrayList;
import java.util.List;
import java.util.Map;
import java.util.TreeMap;
import java.util.regex.Matcher;
import java.util.regex.Pattern;

/** The sentences of DOC.md, and which of them tests have quoted. */
final class Document {
    /** The chapter for what stands ahead of "1 THE TREE". */
    static final int AHEAD = 0;
    /** The chapter for the end of "Terms", on exceptions. */
    static final int EXCEPTIONS = 9;
    private final Map<Integer, String> chapters = new TreeMap<>();
    private final Map<Integer, String> promises = new TreeMap<>();
    private final List<String> quotes = new ArrayList<>();

    Document(Path file) throws IOException {
        String all = Files.readString(file).replace("```text", "").replace("```", "");
        readTerms(between(all, "## Terms", "Ahead of the calls"));
        Matcher heads = Pattern.compile("## Promise (\\d+): .*").matcher(all);
        while (heads.find()) {
            int end = all.indexOf("\n## ", heads.end());
            promises.put(Integer.parseInt(heads.group(1)), flat(all.substring(heads.end(), end)));
        }
    }

    private void readTerms(String terms) {
        int from = 0;
        for (int chapter = AHEAD; chapter <= EXCEPTIONS; chapter++) {
            String next = chapter + 1 < EXCEPTIONS ? "\n" + (chapter + 1) + " " : "\nA method that throws";
            int to = chapter == EXCEPTIONS ? terms.length() : terms.indexOf(next, from);
            chapters.put(chapter, flat(terms.substring(from, to)));
            from = to;
        }
    }

    private static String between(String all, String begin, String end) {
        int from = all.indexOf(begin) + begin.length();
        return all.substring(from, all.indexOf(end, from));
    }

    private static String flat(String text) {
        return text.replaceAll("\\s+", " ").trim();
    }

    boolean quoteTerms(int chapter, String words) {
        quotes.add(words);
        return chapters.getOrDefault(chapter, "").contains(words);
    }

    boolean quotePromise(int number, String words) {
        quotes.add(number + " " + words);
        return promises.getOrDefault(number, "").contains(words);
    }

    int promises() {
        return promises.size();
    }

    boolean hasQuoteOf(int promise) {
        return quotes.stream().anyMatch(quote -> quote.startsWith(promise + " "));
    }

    /** The sentences of "Terms", but for their headings, of which no test has quoted anything. */
    List<String> unquotedTerms() {
        List<String> left = new ArrayList<>();
        for (int chapter = 1; chapter <= EXCEPTIONS; chapter++) {
            for (String sentence : chapters.get(chapter).split("(?<=[.)]) (?=[A-Z(0-9])")) {
                boolean isHeading = sentence.matches("\\d [A-Z ]+\\.");
                boolean isQuoted = quotes.stream().anyMatch(q -> sentence.contains(q) || q.contains(sentence));
                if (!isHeading && !isQuoted) {
                    left.add(chapter + ": " + sentence);
                }
            }
        }
        return left;
    }

    /** The lines of promises that say what is returned, or thrown when, and that no test has quoted. */
    List<String> unquotedPromises() {
        List<String> left = new ArrayList<>();
        for (Map.Entry<Integer, String> promise : promises.entrySet()) {
            String[] parts = promise.getValue().split("(?=Throws |Returns )");
            for (String part : parts) {
                String line = promise.getKey() + " " + part.trim();
                if (part.matches("(Throws|Returns) .*") && !quotes.contains(line)) {
                    left.add(line);
                }
            }
        }
        return left;
    }
}
