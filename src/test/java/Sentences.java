import java.io.IOException;
import java.nio.file.Files;
import java.nio.file.Path;
import java.util.LinkedHashSet;
import java.util.Set;
import java.util.function.Function;
import java.util.function.Supplier;
import java.util.regex.Matcher;
import java.util.regex.Pattern;

/** What the tests of single sentences share: each sentence is quoted ahead of the answers that it asks for. */
abstract class Sentences {
    static final Class<IndexOutOfBoundsException> INDEX = IndexOutOfBoundsException.class;
    static final Class<IllegalArgumentException> ARGUMENT = IllegalArgumentException.class;
    static final Class<IllegalStateException> STATE = IllegalStateException.class;
    static final Class<UnsupportedOperationException> UNSUPPORTED = UnsupportedOperationException.class;
    static final Class<java.util.NoSuchElementException> MISSING = java.util.NoSuchElementException.class;
    // The terms stand ahead of the first promise.
    static final int TERMS = 0;

    private static final Path DOCUMENT = Path.of("../shared/DOC.md");
    private static final String SENTENCE_END = "(?<=[.:])\\s+(?=[A-Z])";
    private static final Set<String> QUOTED = new LinkedHashSet<>();
    private static String last = "";
    private static int answersBefore = 0;

    static void says(int promise, String sentence) {
        askForAnswers();
        last = promise + " " + sentence;
        answersBefore = Check.answers();
        QUOTED.add(last);
        Check.topic((promise == TERMS ? "terms" : "promise " + promise) + ", \"" + sentence + "\"");
    }

    private static void askForAnswers() {
        if (!last.isEmpty() && Check.answers() == answersBefore) {
            Check.complain("no answer is looked at for this sentence");
        }
    }

    /** Compares what was quoted with the document: each of its sentences has a test, and no other one is quoted. */
    static void compareWithDocument() throws IOException {
        askForAnswers();
        Check.topic("the sentences of the document");
        Set<String> due = sentencesOf(Files.readString(DOCUMENT));
        for (String sentence : due) Check.due(sentence + ": true", sentence + ": " + QUOTED.contains(sentence));
        for (String sentence : QUOTED) Check.due(sentence + ": true", sentence + ": " + due.contains(sentence));
    }

    private static Set<String> sentencesOf(String document) {
        Set<String> sentences = new LinkedHashSet<>();
        String terms = document.substring(document.indexOf("## Terms") + 8, document.indexOf("Ahead of the calls"));
        String prose = terms.replaceAll("(?s)<pre>.*?</pre>", "").replaceAll("</?(ol|li)>", "").strip();
        for (String paragraph : prose.split("\n\n|\n")) addSentences(sentences, TERMS, paragraph);
        Matcher promise = Pattern.compile("(?s)## Promise (\\d+): [^\n]*\n(.*?)(?=\n## )").matcher(document);
        while (promise.find()) {
            for (String line : promise.group(2).strip().split("\n")) {
                int number = Integer.parseInt(promise.group(1));
                if (line.startsWith("- ")) sentences.add(number + " " + line.substring(2));
                else addSentences(sentences, number, line.replaceFirst("^`[^`]*\\)[^`]*`: ", ""));
            }
        }
        return sentences;
    }

    private static void addSentences(Set<String> sentences, int promise, String text) {
        for (String sentence : text.split(SENTENCE_END)) {
            // Headings such as "One hour." say nothing by themselves.
            if (sentence.split(" ").length > 2) sentences.add(promise + " " + sentence.strip());
        }
    }

    static void due(Object want, Object got) {
        Check.due(want, got);
    }

    static void refused(Class<? extends RuntimeException> want, Check.Call call) {
        Check.refused(want, call);
    }

    /** Asks for the exception below the least and above the most value, near to them and far from them. */
    static void refusedOutside(int least, int most, Class<? extends RuntimeException> want,
            Function<Integer, Object> call) {
        int[] values = {least - 1, most + 1, -most - 1, Integer.MIN_VALUE, Integer.MAX_VALUE};
        for (int value : values) refused(want, () -> call.apply(value));
    }

    /** Asks for the exception for characters that are no kind of fuel. */
    static void refusedKinds(Function<Character, Object> call) {
        for (char kind : "WCOvxbdnpe \0\u0177\u0163\u016f\uffff".toCharArray()) {
            refused(ARGUMENT, () -> call.apply(kind));
        }
    }

    /** Makes two kilns in the same way and asks that a refused call on one of them leaves them alike. */
    static void changesNothing(Supplier<RingKiln> way, Class<? extends RuntimeException> want,
            Function<RingKiln, Object> call) {
        RingKiln called = way.get();
        RingKiln left = way.get();
        refused(want, () -> call.apply(called));
        due(Kilns.allOf(left), Kilns.allOf(called));
        due(Kilns.memoryOf(left), Kilns.memoryOf(called));
    }
}
