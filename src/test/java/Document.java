import java.io.IOException;
import java.nio.file.Files;
import java.nio.file.Path;
import java.util.ArrayList;
import java.util.LinkedHashMap;
import java.util.LinkedHashSet;
import java.util.List;
import java.util.Map;
import java.util.Set;
import java.util.regex.Matcher;
import java.util.regex.Pattern;

/** The sentences of the document, by the numbers of its promises; 0 stands for "Terms". */
final class Document {
    private static final Path FILE = Path.of("../shared/DOC.md");
    private static final int PROMISES = 38;
    private static final Pattern HEADING = Pattern.compile("## Promise ([0-9]+): .*");
    private static final Pattern ARGUMENT = Pattern.compile("- `[a-zA-Z]+`: (.*)");
    private static final Pattern CALL = Pattern.compile("`[^`]*`: (.*)");

    private final Map<Integer, Set<String>> sentences = new LinkedHashMap<>();
    private final Map<Integer, Set<String>> untold = new LinkedHashMap<>();

    Document() throws IOException {
        for (int promise = 0; promise <= PROMISES; promise++) {
            sentences.put(promise, new LinkedHashSet<>());
        }
        read(Files.readString(FILE).split("\n\n"));
        sentences.forEach((promise, told) -> untold.put(promise, new LinkedHashSet<>(told)));
    }

    private void read(String[] paragraphs) {
        int promise = -1;
        for (String paragraph : paragraphs) {
            Matcher heading = HEADING.matcher(paragraph.strip());
            if (heading.matches()) {
                promise = Integer.parseInt(heading.group(1));
            } else if (paragraph.startsWith("##")) {
                promise = paragraph.strip().equals("## Terms") ? 0 : -1;
            } else if (promise == 0) {
                readTerm(paragraph.strip().replace('\n', ' '));
            } else if (promise > 0) {
                readPromise(sentences.get(promise), paragraph.strip().split("\n"));
            }
        }
    }

    /** The words ahead of a term ("Hail.") are no sentence, nor are those about the order of the interface. */
    private void readTerm(String paragraph) {
        if (paragraph.startsWith("`")) {
            sentences.get(0).add(paragraph);
        } else if (!paragraph.startsWith("Ahead of the calls")) {
            List<String> told = split(paragraph);
            boolean isNamed = told.get(0).split(" ").length <= 3;
            sentences.get(0).addAll(told.subList(isNamed ? 1 : 0, told.size()));
        }
    }

    /** What is said of an argument counts if it names a number or "any": the others name no boundary. */
    private static void readPromise(Set<String> told, String[] lines) {
        for (String line : lines) {
            Matcher argument = ARGUMENT.matcher(line);
            Matcher call = CALL.matcher(line);
            if (!argument.matches()) {
                told.addAll(split(call.matches() ? call.group(1) : line));
            } else if (argument.group(1).matches(".*([0-9]|\\bany\\b).*")) {
                told.add(argument.group(1));
            }
        }
    }

    private static List<String> split(String paragraph) {
        return new ArrayList<>(List.of(paragraph.split("(?<=\\.) (?=[A-Z])")));
    }

    /** Whether this is one of the sentences of a promise; it has its test then. */
    boolean tells(int promise, String sentence) {
        untold.get(promise).remove(sentence);
        return sentences.get(promise).contains(sentence);
    }

    /** The sentences that no test has named so far. */
    List<String> untold() {
        List<String> left = new ArrayList<>();
        untold.forEach((promise, told) -> told.forEach(sentence -> left.add(promise + ": " + sentence)));
        return left;
    }
}
