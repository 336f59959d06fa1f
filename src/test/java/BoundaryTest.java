import java.io.IOException;
import java.nio.file.Files;
import java.nio.file.Path;
import java.util.ArrayList;
import java.util.List;
import java.util.stream.Collectors;
import java.util.stream.Stream;

/**
 * Goes through ../shared/DOC.md sentence by sentence. The files under src/test/boundaries quote every
 * sentence in its order, and below it have its boundary cases, or say why it names none.
 */
public final class BoundaryTest {
    private static final Path DOCUMENT = Path.of("../shared/DOC.md");
    private static final Path CASES = Path.of("src/test/boundaries");

    private final List<String> sentences;
    private int quoted;
    /** The sentences for which neither a case nor a reason has come yet. */
    private final List<String> open = new ArrayList<>();
    private String promise = "";
    private String place = "";
    private Script script;
    private int cases;
    private int faults;

    private BoundaryTest(List<String> sentences) {
        this.sentences = sentences;
    }

    public static void main(String[] args) throws IOException {
        BoundaryTest test = new BoundaryTest(sentencesOf(DOCUMENT));
        test.readAll();
        System.out.println(test.faults == 0
                ? test.cases + " boundary cases hold, for " + test.quoted + " sentences of the document"
                : test.faults + " faults");
        System.exit(test.faults == 0 ? 0 : 1);
    }

    /** The headings and sentences of the document; the java block is left to FaceTest. */
    private static List<String> sentencesOf(Path document) throws IOException {
        List<String> sentences = new ArrayList<>();
        String block = "";
        for (String line : Files.readAllLines(document)) {
            if (line.startsWith("```")) {
                block = line.substring(3);
            } else if (block.equals("text")) {
                sentences.add(line.trim());
            } else if (block.isEmpty() && !line.isBlank()) {
                String heading = "";
                for (String piece : line.split("(?<=\\.) (?=[A-Z])")) {
                    // A word of its own, as "Boats.", is the heading of the sentence behind it.
                    heading = heading.isEmpty() ? piece : heading + " " + piece;
                    if (!heading.matches("\\w+\\.")) {
                        sentences.add(heading);
                        heading = "";
                    }
                }
            }
        }
        return sentences;
    }

    private void readAll() throws IOException {
        List<Path> files;
        try (Stream<Path> found = Files.list(CASES)) {
            files = found.filter(file -> file.toString().endsWith(".txt")).sorted().collect(Collectors.toList());
        }
        for (Path file : files) {
            int number = 0;
            for (String line : Files.readAllLines(file)) {
                number++;
                place = file.getFileName() + ":" + number;
                read(line);
            }
        }
        if (quoted < sentences.size()) {
            fault("the document goes on: " + sentences.get(quoted));
        }
        if (!open.isEmpty()) {
            fault("no case and no reason: " + open);
        }
    }

    private void read(String line) {
        if (line.startsWith("#") || line.startsWith("> ")) {
            quote(line.startsWith(">") ? line.substring(2) : line);
        } else if (line.startsWith("none: ")) {
            open.clear();
        } else if (line.startsWith("case: ")) {
            startCase();
        } else if (line.startsWith("    ") && script != null) {
            for (String wrong : script.carryOut(line.trim())) {
                fault(promise + ": " + line.trim() + ": " + wrong);
            }
        } else if (!line.isBlank()) {
            fault("what is this: " + line);
        }
    }

    private void quote(String sentence) {
        String due = quoted < sentences.size() ? sentences.get(quoted) : "the end";
        if (!sentence.equals(due)) {
            fault("quoted is: " + sentence + "\n    the document says: " + due);
        }
        quoted++;
        script = null;
        if (sentence.startsWith("#")) {
            promise = sentence.replaceAll("#+ |:.*", "");
        } else {
            open.add(sentence);
        }
    }

    /** A case is for the sentence right above it; sentences without cases stand together above a reason. */
    private void startCase() {
        if (open.size() > 1) {
            fault("no case and no reason: " + open.get(0));
        }
        open.clear();
        cases++;
        script = new Script();
    }

    private void fault(String what) {
        faults++;
        System.out.println(place + ": " + what);
    }
}
