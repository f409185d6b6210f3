import java.io.IOException;
import java.lang.reflect.Method;
import java.nio.file.Files;
import java.nio.file.Path;
import java.util.ArrayList;
import java.util.List;
import java.util.Map;
import java.util.TreeMap;
import java.util.regex.Matcher;
import java.util.regex.Pattern;

/** Each boundary test stands for a sentence of the document, and each sentence that names a boundary has a test. */
public final class SentencesTest {
    private static final Check CHECK = new Check("SentencesTest");
    private static final Path DOCUMENT = Path.of("../shared/DOC.md");
    private static final List<Class<?>> TESTS = List.of(TextBoundaryTest.class, SightBoundaryTest.class, LoopBoundaryTest.class,
            HeightBoundaryTest.class, ChangeBoundaryTest.class, OutputBoundaryTest.class);

    public static void main(String[] args) throws IOException {
        Map<String, String> sections = sections(Files.readString(DOCUMENT));
        Map<String, List<String>> quotes = new TreeMap<>();
        for (Class<?> test : TESTS) {
            for (Method method : Boundary.testsOf(test)) quote(sections, quotes, method);
        }
        for (int term = 1; term <= 6; term++) CHECK.due("term " + term + " has a test", true, quotes.containsKey("Term " + term));
        for (int promise = 1; promise <= 54; promise++) {
            CHECK.due("promise " + promise + " has a test", true, quotes.containsKey("Promise " + promise));
            eachSentence("Promise " + promise, sections.get("Promise " + promise), quotes.get("Promise " + promise));
        }
        CHECK.end();
    }

    private static void quote(Map<String, String> sections, Map<String, List<String>> quotes, Method method) {
        Says says = method.getAnnotation(Says.class);
        String section = sections.getOrDefault(says.at(), "").replaceAll("\\s+", " ");
        CHECK.due(method.getName() + " quotes " + says.at() + ": " + says.text(), true, section.contains(says.text()));
        String start = says.at().toLowerCase().replace(" ", "");
        boolean named = !start.matches("(term|promise)\\d+") || method.getName().matches(start + "(?!\\d).*");
        CHECK.due(method.getName() + " is named by " + says.at(), true, named);
        quotes.computeIfAbsent(says.at(), k -> new ArrayList<>()).add(says.text());
    }

    /** What is thrown, and what is returned on a tie and in the cases behind a semicolon: each has a test of its own. */
    private static void eachSentence(String at, String section, List<String> quotes) {
        for (String line : section.split("\n")) {
            if (!line.startsWith("Throws ") && !line.startsWith("Returns ")) continue;
            for (String sentence : line.replaceAll("\\.$", "").split("; ")) {
                boolean usual = sentence.startsWith("Returns ") && !sentence.contains("on a tie");
                if (!usual) CHECK.due(at + " has a test for: " + sentence, true, quoted(quotes, sentence));
            }
        }
    }

    private static boolean quoted(List<String> quotes, String sentence) {
        if (quotes == null) return false;
        for (String quote : quotes) {
            if (quote.contains(sentence) || sentence.contains(quote)) return true;
        }
        return false;
    }

    /** The terms, the constants and the promises. */
    private static Map<String, String> sections(String document) {
        Map<String, String> sections = new TreeMap<>();
        String at = "";
        for (String line : document.split("\n")) {
            Matcher promise = Pattern.compile("## (Promise \\d+):.*").matcher(line);
            Matcher term = Pattern.compile("(\\d)\\. .*").matcher(line);
            if (promise.matches()) at = promise.group(1);
            else if (line.startsWith("## ")) at = line.substring(3);
            else if (line.startsWith("The constants:")) at = "Constants";
            else if (at.startsWith("Term") && term.matches()) at = "Term " + term.group(1);
            sections.merge(at, line, (a, b) -> a + "\n" + b);
        }
        return sections;
    }
}
