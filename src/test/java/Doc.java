import java.io.IOException;
import java.nio.file.Files;
import java.nio.file.Path;
import java.util.ArrayList;
import java.util.LinkedHashMap;
import java.util.LinkedHashSet;
import java.util.List;
import java.util.Map;
import java.util.Set;

/**
 * The sentences of ../shared/DOC.md. A test names the one that it holds the class to, so that one can see which
 * sentences have a test; at the end a sentence without one is a fault, and so is a name that the document hasn't.
 */
final class Doc {
    private static final Path PAGE = Path.of("../shared/DOC.md");
    /** These say what the program is, how the document is laid out, or what is free: there is nothing to hold. */
    private static final String[] FREE = {"Sins are sheared", "Ahead of the calls"};

    private static final Map<String, List<String>> SENTENCES = read();
    private static final Set<String> TESTED = new LinkedHashSet<>();
    private static String section = "";

    private Doc() {
    }

    static void section(String heading) {
        section = heading;
        if (!SENTENCES.isEmpty()) {
            Due.isTrue("the document has a section " + heading, SENTENCES.containsKey(heading));
        }
    }

    static void says(String sentence) {
        Due.about(section + ": " + sentence);
        TESTED.add(section + ": " + sentence);
        List<String> said = SENTENCES.get(section);
        if (said != null) {
            Due.isTrue("the document says so", said.contains(sentence));
        }
    }

    static void allHaveTests() {
        if (SENTENCES.isEmpty()) {
            System.out.println("no " + PAGE + " here: whether each of its sentences has a test was not looked at");
        }
        System.out.println(TESTED.size() + " sentences have tests");
        SENTENCES.forEach((heading, said) -> {
            for (String sentence : said) {
                Due.about(heading + ": " + sentence);
                Due.isTrue("the sentence has a test", TESTED.contains(heading + ": " + sentence));
            }
        });
    }

    private static Map<String, List<String>> read() {
        Map<String, List<String>> all = new LinkedHashMap<>();
        if (!Files.exists(PAGE)) {
            return all;
        }
        try {
            for (String part : Files.readString(PAGE).split("(?m)^## ")) {
                int line = part.indexOf('\n');
                String heading = part.substring(0, line).trim();
                if (heading.equals("What it is") || heading.equals("Terms") || heading.startsWith("Promise ")) {
                    all.put(heading, sentences(part.substring(line)));
                }
            }
        } catch (IOException e) {
            throw new IllegalStateException(e);
        }
        return all;
    }

    private static List<String> sentences(String part) {
        String bare = part.replaceAll("```[a-z]*", "").replaceAll("={8} [0-9] ", "").replaceAll("`[^`]*`: ", "");
        List<String> all = new ArrayList<>();
        for (String sentence : bare.trim().split("\\.\\s+(?=[A-Z(])|(?<=\\.\\))\\s+")) {
            String one = sentence.trim().replaceAll("\\s+", " ").replaceAll("\\.$", "");
            boolean free = one.isEmpty();
            for (String begins : FREE) {
                free |= one.startsWith(begins);
            }
            if (!free) {
                all.add(one);
            }
        }
        return all;
    }
}
