import java.io.IOException;
import java.nio.charset.StandardCharsets;
import java.nio.file.Files;
import java.nio.file.Paths;
import java.util.regex.Matcher;
import java.util.regex.Pattern;

/** Rules of ../shared/LANGUAGE.md that can be seen in the text of the class. */
public final class LanguageTest {
    private static final Check CHECK = new Check("language");
    private static final int MOST_LINES = 60;
    /** What must not stand in the code, each with the number of its rule. */
    private static final String[][] BARRED = {
        {"2", "->|::"},
        {"3", "\\b(double|float|Object|Long|Short|Byte|Character|Double|Float|Boolean|var)\\b"},
        {"4", "\\b(System\\.(?!arraycopy)|Arrays\\.(?!copyOf|copyOfRange|fill)|Collections|Map|Set|Deque|Optional"
            + "|stream|format|Scanner|BigInteger)\\b"},
        {"4", "\\w+Exact\\b"},
        {"5", "static\\s*\\{"},
        {"6", "\\b(try|catch|finally|synchronized|assert|getMessage|hashCode|toString)\\b"},
        {"13", "\\b(Random|Thread|File|Clock|Instant|nanoTime|currentTimeMillis)\\b"},
    };
    private static final Pattern THROWN = Pattern.compile("throw\\s+new\\s+(\\w+)\\(");
    private static final Pattern METHOD = Pattern.compile(
        "(?m)^( {4}| {8})(?! |return|throw|else)[\\w\\[\\] ]*?(\\w+)\\(([^()]*)\\)( throws \\w+)? \\{$");

    public static void main(String[] args) throws IOException {
        String text = new String(Files.readAllBytes(Paths.get("src/main/java/BumpsRiver.java")), StandardCharsets.UTF_8);
        String code = bare(text);
        for (String[] each : BARRED) {
            Matcher matcher = Pattern.compile(each[1]).matcher(code);
            CHECK.due("rule " + each[0], matcher.find() ? matcher.group() : "nothing barred", "nothing barred");
        }
        CHECK.due("rule 4, what is imported", firstGroups(text, "(?m)^import (.*);$"), "java.util.NoSuchElementException ");
        CHECK.due("rule 1, no package", Pattern.compile("(?m)^package ").matcher(text).find(), false);
        Matcher thrown = THROWN.matcher(code);
        while (thrown.find()) {
            CHECK.due("what the document lets a call throw", thrown.group(1), "NoSuchElementException");
        }
        int methods = checkMethods(code);
        CHECK.due("methods were seen", methods > 100, true);
        CHECK.finish();
    }

    /** The code with its lines, but without comments and written texts. */
    private static String bare(String text) {
        Matcher matcher = Pattern.compile("(?s)/\\*.*?\\*/|//[^\n]*|\"(\\\\.|[^\"\\\\])*\"").matcher(text);
        StringBuffer bare = new StringBuffer();
        while (matcher.find()) {
            matcher.appendReplacement(bare, matcher.group().replaceAll("[^\n]", " "));
        }
        return matcher.appendTail(bare).toString();
    }

    private static String firstGroups(String text, String pattern) {
        StringBuilder found = new StringBuilder();
        Matcher matcher = Pattern.compile(pattern).matcher(text);
        while (matcher.find()) {
            found.append(matcher.group(1)).append(' ');
        }
        return found.toString();
    }

    /** Rule 11: a method takes seven at most and has some sixty lines. */
    private static int checkMethods(String code) {
        int methods = 0;
        Matcher matcher = METHOD.matcher(code);
        while (matcher.find()) {
            int end = code.indexOf("\n" + matcher.group(1) + "}\n", matcher.end());
            CHECK.due("rule 11, the end of " + matcher.group(2), end >= 0, true);
            String body = code.substring(matcher.start(), Math.max(matcher.start(), end));
            int lines = body.split("\n").length + 1;
            CHECK.due("rule 11, lines of " + matcher.group(2), lines <= MOST_LINES ? "few" : "" + lines, "few");
            int taken = matcher.group(3).isBlank() ? 0 : matcher.group(3).split(",").length;
            CHECK.due("rule 11, what " + matcher.group(2) + " takes", taken <= 7, true);
            methods++;
        }
        return methods;
    }
}
