import java.io.IOException;
import java.nio.charset.StandardCharsets;
import java.nio.file.Files;
import java.nio.file.Paths;
import java.util.ArrayList;
import java.util.List;
import java.util.Map;
import java.util.TreeMap;
import java.util.regex.Matcher;
import java.util.regex.Pattern;

/** Rules of ../shared/LANGUAGE.md that can be seen in the text of the class. */
public final class LanguageTest {
    private static final Check CHECK = new Check("language");
    private static final int MOST_LINES = 60;
    private static final int MOST_DEEP = 8;
    /** What must not stand in the code, each with the number of its rule. */
    private static final String[][] BARRED = {
        {"2", "->|::"},
        {"3", "\\b(double|float|Object|Long|Short|Byte|Character|Double|Float|Boolean|var)\\b"},
        {"4", "\\b(System\\.(?!arraycopy)|Arrays\\.(?!copyOf|copyOfRange|fill)|Collections|Map|Set|Deque|Optional"
            + "|stream|format|Scanner|BigInteger)\\b"},
        {"4", "\\w+Exact\\b"},
        {"5", "static\\s*\\{"},
        {"6", "\\b(try|catch|finally|synchronized|assert|getMessage|hashCode|toString)\\b"},
        {"13", "\\b(Random|Thread|File|Clock|Instant|nanoTime|currentTimeMillis)\\b"},
    };
    private static final Pattern THROWN = Pattern.compile("throw\\s+new\\s+(\\w+)\\(");
    private static final Pattern METHOD = Pattern.compile(
        "(?m)^( {4}| {8})(?! |return|throw|else)[\\w\\[\\] ]*?(\\w+)\\(([^()]*)\\)( throws \\w+)? \\{$");

    public static void main(String[] args) throws IOException {
        String text = new String(Files.readAllBytes(Paths.get("src/main/java/BumpsRiver.java")), StandardCharsets.UTF_8);
        String code = bare(text);
        for (String[] each : BARRED) {
            Matcher matcher = Pattern.compile(each[1]).matcher(code);
            CHECK.due("rule " + each[0], matcher.find() ? matcher.group() : "nothing barred", "nothing barred");
        }
        CHECK.due("rule 4, what is imported", firstGroups(text, "(?m)^import (.*);$"), "java.util.NoSuchElementException ");
        CHECK.due("rule 1, no package", Pattern.compile("(?m)^package ").matcher(text).find(), false);
        Matcher thrown = THROWN.matcher(code);
        while (thrown.find()) {
            CHECK.due("what the document lets a call throw", thrown.group(1), "NoSuchElementException");
        }
        Map<String, String> bodies = checkMethods(code);
        CHECK.due("methods were seen", bodies.size() > 100, true);
        checkWhatIsMade(bodies);
        checkDepth(bodies);
        CHECK.finish();
    }

    /** The code with its lines, but without comments and written texts. */
    private static String bare(String text) {
        Matcher matcher = Pattern.compile("(?s)/\\*.*?\\*/|//[^\n]*|\"(\\\\.|[^\"\\\\])*\"").matcher(text);
        StringBuffer bare = new StringBuffer();
        while (matcher.find()) {
            matcher.appendReplacement(bare, matcher.group().replaceAll("[^\n]", " "));
        }
        return matcher.appendTail(bare).toString();
    }

    private static String firstGroups(String text, String pattern) {
        StringBuilder found = new StringBuilder();
        Matcher matcher = Pattern.compile(pattern).matcher(text);
        while (matcher.find()) {
            found.append(matcher.group(1)).append(' ');
        }
        return found.toString();
    }

    /** Rule 11: a method takes seven at most and has some sixty lines. The bodies by the methods' names. */
    private static Map<String, String> checkMethods(String code) {
        Map<String, String> bodies = new TreeMap<>();
        Matcher matcher = METHOD.matcher(code);
        while (matcher.find()) {
            int end = code.indexOf("\n" + matcher.group(1) + "}\n", matcher.end());
            CHECK.due("rule 11, the end of " + matcher.group(2), end >= 0, true);
            String body = code.substring(matcher.start(), Math.max(matcher.start(), end));
            int lines = body.split("\n").length + 1;
            CHECK.due("rule 11, lines of " + matcher.group(2), lines <= MOST_LINES ? "few" : "" + lines, "few");
            int taken = matcher.group(3).isBlank() ? 0 : matcher.group(3).split(",").length;
            CHECK.due("rule 11, what " + matcher.group(2) + " takes", taken <= 7, true);
            // methods of one name in several classes count as one that does what all of them do
            bodies.merge(matcher.group(2), body.substring(body.indexOf('{')), String::concat);
        }
        return bodies;
    }

    /** Rule 12: rows are made by constructors, and used again by all calls. */
    private static void checkWhatIsMade(Map<String, String> bodies) {
        for (Map.Entry<String, String> each : bodies.entrySet()) {
            boolean constructor = Character.isUpperCase(each.getKey().charAt(0));
            Matcher made = Pattern.compile("(?<!throw )\\bnew \\w+").matcher(each.getValue());
            CHECK.due("rule 12, " + each.getKey(), !constructor && made.find() ? made.group() : "makes nothing",
                "makes nothing");
        }
    }

    /** Rule 11: calls that are no recursion go at most eight deep, those of the library too. */
    private static void checkDepth(Map<String, String> bodies) {
        int deepest = 0;
        for (String name : bodies.keySet()) {
            List<String> chain = deepest(name, bodies, new ArrayList<>());
            CHECK.due("rule 11, how deep calls go from " + name, chain.size() <= MOST_DEEP ? "fine" : chain.toString(),
                "fine");
            deepest = Math.max(deepest, chain.size());
        }
        CHECK.due("chains of calls were seen", deepest > 5, true);
    }

    private static List<String> deepest(String name, Map<String, String> bodies, List<String> open) {
        List<String> longest = new ArrayList<>();
        open.add(name);
        Matcher call = Pattern.compile("\\b((Math|Integer)\\.)?(\\w+)\\(").matcher(bodies.get(name));
        while (call.find()) {
            List<String> chain = new ArrayList<>();
            if (call.group(1) != null) {
                chain.add(call.group());
            } else if (bodies.containsKey(call.group(3)) && !open.contains(call.group(3))) {
                chain = deepest(call.group(3), bodies, open);
            }
            longest = chain.size() > longest.size() ? chain : longest;
        }
        open.remove(open.size() - 1);
        longest.add(0, name);
        return longest;
    }
}
