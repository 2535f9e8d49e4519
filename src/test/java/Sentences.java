import java.io.IOException;
import java.nio.charset.StandardCharsets;
import java.nio.file.Files;
import java.nio.file.Path;
import java.nio.file.Paths;
import java.util.Arrays;
import java.util.HashMap;
import java.util.Map;
import java.util.regex.Matcher;
import java.util.regex.Pattern;

/**
 * Checks under words of the document: ahead of each group of checks stand the words that they hold the
 * class to. At the end every word of the terms and of the promises must have been said, so that no
 * sentence of the document is left without a test of its own.
 */
final class Sentences {
    static final int PROMISES = 48;
    /** The section of the terms; the others are numbered as the promises are. */
    private static final int TERMS = 0;

    private final Check check = new Check("edges");
    private final Map<Integer, String> sections = new HashMap<>();
    private final Map<Integer, boolean[]> said = new HashMap<>();
    private int section;
    private String words = "";
    private int checkedBefore;

    Sentences(String document) {
        Path path = Paths.get(document);
        if (!Files.isReadable(path)) {
            System.out.println("edges: no document at " + document + ", so its words are not compared");
            return;
        }
        try {
            split(new String(Files.readAllBytes(path), StandardCharsets.UTF_8));
        } catch (IOException e) {
            throw new IllegalStateException(e);
        }
    }

    private void split(String document) {
        // the numbers of the terms' points and the marks of their blocks are no words
        String bare = document.replaceAll("(?m)^(\\d\\. |```.*$)", "");
        take(TERMS, bare, Pattern.compile("(?s)## Terms\n(.*?)Ahead of the calls"));
        for (int promise = 1; promise <= PROMISES; promise++) {
            take(promise, document, Pattern.compile("(?s)## Promise " + promise + ": [^\n]*\n+`[^`]*`: (.*?)(\n##|$)"));
        }
    }

    private void take(int number, String document, Pattern pattern) {
        Matcher matcher = pattern.matcher(document);
        boolean found = matcher.find();
        check.due("section " + number + " of the document is there", found, true);
        if (found) {
            sections.put(number, matcher.group(1));
            said.put(number, new boolean[matcher.group(1).length()]);
        }
    }

    void terms() {
        promise(TERMS);
    }

    void promise(int number) {
        closeWords();
        words = "";
        section = number;
    }

    /** The words that the next checks hold the class to, as the document has them. */
    void says(String next) {
        closeWords();
        words = next;
        if (sections.containsKey(section)) {
            find(sections.get(section), said.get(section));
        }
        checkedBefore = check.checked();
    }

    private void find(String text, boolean[] marks) {
        int from = text.indexOf(words);
        check.due(where() + " are words of the document", from >= 0, true);
        for (; from >= 0; from = text.indexOf(words, from + 1)) {
            Arrays.fill(marks, from, from + words.length(), true);
        }
    }

    private void closeWords() {
        if (!words.isEmpty()) {
            check.due(where() + " are checked", check.checked() > checkedBefore, true);
        }
    }

    private String where() {
        return (section == TERMS ? "terms" : "promise " + section) + " \"" + words + "\"";
    }

    void due(String call, Object got, Object want) {
        check.due(where() + ": " + call, got, want);
    }

    void row(String call, BumpsRiver river, long... want) {
        check.row(where() + ": " + call, river, want);
    }

    void both(String call, BumpsRiver river, int got, int want, long... row) {
        check.both(where() + ": " + call, river, got, want, row);
    }

    /** The call must have changed nothing that can be seen. */
    void same(String call, BumpsRiver river, String before) {
        due(call + " changes nothing", Check.whole(river), before);
    }

    void finish() {
        closeWords();
        for (Map.Entry<Integer, String> each : sections.entrySet()) {
            check.due("words of section " + each.getKey() + " that no test says", unsaid(each.getKey()), "");
        }
        check.finish();
    }

    private String unsaid(int number) {
        StringBuilder left = new StringBuilder();
        String text = sections.get(number);
        for (int i = 0; i < text.length(); i++) {
            boolean counts = Character.isLetterOrDigit(text.charAt(i)) && !said.get(number)[i];
            left.append(counts ? text.charAt(i) : ' ');
        }
        return left.toString().replaceAll("\\s+", " ").trim();
    }
}
