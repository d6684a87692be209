import java.io.IOException;
import java.lang.reflect.Method;
import java.nio.file.Files;
import java.nio.file.Path;
import java.util.ArrayList;
import java.util.LinkedHashMap;
import java.util.List;
import java.util.Map;
import java.util.regex.Matcher;
import java.util.regex.Pattern;

/**
 * The comments of the tests against the document. Each test stands under a comment that names
 * the section and quotes the one sentence that it is of; ".." in it stands for words left out.
 */
final class DocumentTests {
    private static final Path DOCUMENT = Path.of("../shared/DOC.md");
    private static final Path TESTS = Path.of("src/test/java");
    private static final int PROMISES = 38;
    private static final Pattern TEST = Pattern.compile(
            "((?:^    //[^\n]*\n)*)^    static void (\\w+)\\(\\)", Pattern.MULTILINE);
    private static final Pattern QUOTATION = Pattern.compile(
            "^(Terms|Promise (\\d+)): \"([^\"]*)\"");

    /** What promises nothing that a call could answer wrongly. */
    private static final List<String> WITHOUT_A_TEST = List.of(
            "[A-Z][a-z]+( lists)?",
            "(course|student|required|other|from|to): number of (a|the) .*",
            "Ahead of the calls .*",
            "Calls add courses and students, .* who has which place",
            "Nothing is read from text, and nothing can be undone",
            "see runExchange\\(\\)");

    private record Quotation(String test, String section, String words) {
    }

    private DocumentTests() {
    }

    static void eachTestQuotesItsSentence() throws IOException {
        Map<String, List<String>> sentences = sentences();
        for (Quotation quotation : quotations()) {
            String shortName = quotation.section.equals("Terms") ? "terms_"
                    : String.format("p%02d_", Integer.parseInt(quotation.section.substring(8)));
            Check.yes(quotation.test + " is of " + quotation.section,
                    quotation.test.startsWith(shortName));
            boolean stands = sentences.isEmpty();
            for (String sentence : sentences.getOrDefault(quotation.section, List.of())) {
                stands |= isOf(quotation, sentence);
            }
            Check.yes(quotation + " stands in the document", stands);
        }
    }

    static void eachSentenceHasATestOfItsOwn() throws IOException {
        List<Quotation> quotations = quotations();
        sentences().forEach((section, sentences) -> {
            for (String sentence : sentences) {
                boolean tested = WITHOUT_A_TEST.stream().anyMatch(sentence::matches);
                for (Quotation quotation : quotations) {
                    tested |= quotation.section.equals(section) && isOf(quotation, sentence);
                }
                Check.yes("a test of \"" + sentence + "\" in " + section, tested);
            }
        });
    }

    static void eachPromiseHasATest() throws IOException {
        List<Quotation> quotations = quotations();
        for (int promise = 1; promise <= PROMISES; promise++) {
            String section = "Promise " + promise;
            Check.yes("a test of " + section,
                    quotations.stream().anyMatch(q -> q.section.equals(section)));
        }
    }

    private static boolean isOf(Quotation quotation, String sentence) {
        StringBuilder pattern = new StringBuilder();
        for (String part : quotation.words.split("\\.\\.", -1)) {
            pattern.append(pattern.length() == 0 ? "" : ".*").append(Pattern.quote(part));
        }
        return sentence.matches(pattern.toString());
    }

    private static List<Quotation> quotations() throws IOException {
        List<Quotation> all = new ArrayList<>();
        for (Class<?> tests : AllTests.OF_SENTENCES) {
            String code = Files.readString(TESTS.resolve(tests.getName() + ".java"));
            Matcher found = TEST.matcher(code);
            int count = 0;
            while (found.find()) {
                count++;
                all.add(quotationOf(found.group(2), found.group(1)));
            }
            List<Method> methods = AllTests.testsOf(tests);
            Check.same("tests found in " + tests, methods.size(), count);
        }
        return all;
    }

    private static Quotation quotationOf(String test, String comment) {
        String text = comment.replaceAll("(?m)^    // ?", "").replaceAll("\\s+", " ");
        Matcher quotation = QUOTATION.matcher(text);
        Check.yes("a quotation above " + test, quotation.find());
        return new Quotation(test, quotation.group(1), quotation.group(3));
    }

    /** None where the document is not at hand: the program's tests do not need it. */
    private static Map<String, List<String>> sentences() throws IOException {
        Map<String, List<String>> all = new LinkedHashMap<>();
        if (!Files.exists(DOCUMENT)) {
            System.out.println("no " + DOCUMENT + ": the quotations are not compared with it");
            return all;
        }
        for (String section : Files.readString(DOCUMENT).split("(?m)^## ")) {
            String name = section.lines().findFirst().orElse("");
            Matcher promise = Pattern.compile("Promise (\\d+):.*").matcher(name);
            if (name.equals("Terms")) {
                all.put(name, sentencesOf(section));
            } else if (promise.matches() && Integer.parseInt(promise.group(1)) <= PROMISES) {
                all.put("Promise " + promise.group(1), sentencesOf(section));
            }
        }
        return all;
    }

    private static List<String> sentencesOf(String section) {
        List<String> sentences = new ArrayList<>();
        for (String line : section.lines().skip(1).toList()) {
            String text = line.replaceFirst("^`[^`]*\\(.*?\\)[^`]*`: ", "")
                    .replaceFirst("^- ", "").replace("`", "").strip();
            for (String sentence : text.split("\\.( |$)|; ")) {
                if (!sentence.isEmpty()) {
                    sentences.add(sentence);
                }
            }
        }
        return sentences;
    }
}
