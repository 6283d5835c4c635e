import java.io.IOException;
import java.io.UncheckedIOException;
import java.nio.file.Files;
import java.nio.file.Path;
import java.util.ArrayList;
import java.util.HashSet;
import java.util.LinkedHashMap;
import java.util.List;
import java.util.Map;
import java.util.Set;

/** The sentences of ../shared/DOC.md, and those of them that a test has been named for. */
final class Document {
    private static final Map<String, List<String>> SENTENCES = read();
    private static final Set<String> TESTED = new HashSet<>();

    private Document() {
    }

    private static Map<String, List<String>> read() {
        try {
            Map<String, List<String>> sentences = new LinkedHashMap<>();
            for (String section : Files.readString(Path.of("..", "shared", "DOC.md")).split("(?m)^## ")) {
                int end = section.indexOf('\n');
                sentences.put(section.substring(0, end).split(":")[0], sentencesOf(section.substring(end)));
            }
            return sentences;
        } catch (IOException e) {
            throw new UncheckedIOException(e);
        }
    }

    // A promise begins with its signature, which is no sentence, nor are the lines that name the arguments.
    private static List<String> sentencesOf(String section) {
        List<String> sentences = new ArrayList<>();
        for (String paragraph : section.split("\n\n+")) {
            String text = paragraph.strip().replaceFirst("^`[^`]*\\)[^`]*`: ", "").replace('\n', ' ');
            if (!text.startsWith("- `")) {
                for (String sentence : text.split("(?<=[.:\"]\\.?) (?=[A-Z])|(?<=\\.) (?=\")")) {
                    sentences.add(sentence);
                }
            }
        }
        return sentences;
    }

    /** The next checks are about a sentence of a promise; it is told by words that stand in it alone. */
    static void promise(int number, String words) {
        says("Promise " + number, words);
    }

    /** The next checks are about a sentence of the terms. */
    static void term(String words) {
        says("Terms", words);
    }

    static void says(String heading, String words) {
        Set<String> found = new HashSet<>();
        for (String sentence : SENTENCES.getOrDefault(heading, List.of())) {
            if (sentence.contains(words)) {
                found.add(heading + ": " + sentence);
                Checks.about(heading + ": " + sentence);
            }
        }
        TESTED.addAll(found);
        Checks.due("sentences of the document with \"" + words + "\"", 1, found::size);
    }

    /** Each term, each exception and each sentence that tells what a call does must have been tested. */
    static void dueTested() {
        Checks.about("");
        SENTENCES.forEach((heading, sentences) -> {
            for (String sentence : sentences) {
                String told = heading + ": " + sentence;
                if (tellsAnEdge(heading, sentence)) {
                    Checks.due("a test of \"" + told + "\"", true, () -> TESTED.contains(told));
                }
            }
        });
    }

    // One or two words name what follows; a line such as "Returns the warmth." says its call's first line again.
    private static boolean tellsAnEdge(String heading, String sentence) {
        boolean isTerm = heading.equals("Terms") && !sentence.startsWith("Ahead of") && !sentence.endsWith(":");
        boolean isPromise = heading.startsWith("Promise ") && !sentence.matches("Returns the number of .*")
                && !sentence.matches("Returns the [a-z]+( of the [a-z]+)?\\.");
        return (isTerm || isPromise) && sentence.matches(".+ .+ .+");
    }
}
