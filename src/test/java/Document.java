import java.io.IOException;
import java.io.UncheckedIOException;
import java.nio.file.Files;
import java.nio.file.Path;
import java.util.ArrayList;
import java.util.List;

/** The document: whether it has the words that a test quotes, and which of its sentences no test quotes. */
final class Document {
    private static final String PROMISE = "\n## Promise ";
    private static final String END = "\n## Not promised";

    /** What a test stands for: some words of the document, for a promise. */
    record Quote(int promise, String words) {
    }

    /** What stands ahead of the promises, then each promise. */
    private final String[] parts;

    private Document(String text) {
        parts = text.substring(0, text.indexOf(END)).split(PROMISE);
    }

    /** Null if there is none at this place. */
    static Document at(Path path) {
        try {
            return Files.exists(path) ? new Document(Files.readString(path)) : null;
        } catch (IOException e) {
            throw new UncheckedIOException(e);
        }
    }

    /** The words must stand with the promise, or with the terms, on which all promises rest. */
    boolean has(Quote quote) {
        boolean known = quote.promise() > 0 && quote.promise() < parts.length;
        return known && (parts[quote.promise()].contains(quote.words()) || parts[0].contains(quote.words()));
    }

    List<Quote> unquoted(List<Quote> quotes) {
        List<Quote> left = new ArrayList<>();
        for (int promise = 0; promise < parts.length; promise++) {
            for (String sentence : sentences(promise)) {
                if (!isQuoted(promise, sentence, quotes)) {
                    left.add(new Quote(promise, sentence));
                }
            }
        }
        return left;
    }

    private static boolean isQuoted(int promise, String sentence, List<Quote> quotes) {
        for (Quote quote : quotes) {
            boolean here = promise == 0 || promise == quote.promise();
            if (here && (sentence.contains(quote.words()) || quote.words().contains(sentence))) {
                return true;
            }
        }
        return false;
    }

    private List<String> sentences(int promise) {
        String part = parts[promise];
        int begin = promise == 0 ? part.indexOf("## Terms") : part.indexOf('\n');
        List<String> sentences = new ArrayList<>();
        for (String line : part.substring(begin).split("\n")) {
            boolean heading = line.startsWith("#") || line.startsWith("Ahead of ");
            if (!heading && !(promise == 0 && !line.endsWith("."))) {
                addSentences(line, sentences);
            }
        }
        return sentences;
    }

    private static void addSentences(String line, List<String> sentences) {
        String text = line.replaceFirst("^- ", "").replaceFirst("^`[^`]*\\([^`]*`: ", "").strip();
        for (String sentence : text.split("[.;]( +|$)")) {
            if (!sentence.isEmpty()) {
                sentences.add(sentence);
            }
        }
    }
}
