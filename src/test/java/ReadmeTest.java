import java.io.File;
import java.lang.reflect.InvocationTargetException;
import java.lang.reflect.Method;
import java.nio.charset.StandardCharsets;
import java.nio.file.Files;
import java.nio.file.Paths;
import java.util.TreeMap;
import java.util.TreeSet;
import java.util.regex.Matcher;
import java.util.regex.Pattern;

/** README.md: its examples answer as it says, and it names every call, class and test. */
public final class ReadmeTest {
    private static final Check CHECK = new Check("readme");
    private static final Pattern EXAMPLE = Pattern.compile("^river\\.(\\w+)\\(([^)]*)\\);\\s+// (-?\\w+)");
    private static final Pattern SAID = Pattern.compile("^say\\(river, \"([^\"]*)\"\\);$");
    private static final Pattern CALL = Pattern.compile("(?m)^\\| `(\\w+)\\(([^)]*)\\)` \\| ");
    private static final Pattern TEXT = Pattern.compile(
        "(?m)^\\| (?:an? )?[A-Z]+ \\| ([^|]*) \\|[^|]*\\|[^|]*\\| `([^`]*)` \\|$");

    public static void main(String[] args) throws Exception {
        String page = new String(Files.readAllBytes(Paths.get("README.md")), StandardCharsets.UTF_8);
        TreeMap<String, Method> face = new TreeMap<>();
        for (Method method : BumpsRiver.class.getDeclaredMethods()) {
            if (java.lang.reflect.Modifier.isPublic(method.getModifiers())) {
                face.put(method.getName(), method);
            }
        }
        playExamples(page, face);
        compareCalls(page, face);
        readTexts(page, face);
        for (Class<?> inside : BumpsRiver.class.getDeclaredClasses()) {
            CHECK.due("a class inside that is named: " + inside.getSimpleName(),
                page.contains("`" + inside.getSimpleName() + "`"), true);
        }
        for (File test : new File("src/test/java").listFiles((dir, name) -> name.endsWith("Test.java"))) {
            String name = test.getName().replace(".java", "");
            CHECK.due("a test that is named: " + name, page.contains("`" + name + "`"), true);
        }
        CHECK.finish();
    }

    private static void playExamples(String page, TreeMap<String, Method> face) throws IllegalAccessException {
        BumpsRiver river = new BumpsRiver();
        int played = 0;
        for (String line : page.split("\n")) {
            Matcher said = SAID.matcher(line);
            Matcher example = EXAMPLE.matcher(line);
            if (line.startsWith("BumpsRiver river = new")) {
                river = new BumpsRiver();
            } else if (said.matches()) {
                Check.say(river, said.group(1));
            } else if (example.find()) {
                CHECK.due(line, answer(river, face.get(example.group(1)), example.group(2)), example.group(3));
                played++;
            }
        }
        CHECK.due("examples were played", played > 15, true);
    }

    private static String answer(BumpsRiver river, Method method, String told) throws IllegalAccessException {
        String[] numbers = told.isEmpty() ? new String[0] : told.split(", ");
        Object[] arguments = new Object[numbers.length];
        for (int i = 0; i < numbers.length; i++) {
            arguments[i] = Integer.decode(numbers[i]);
        }
        try {
            return "" + method.invoke(river, arguments);
        } catch (InvocationTargetException e) {
            return e.getCause().getClass().getSimpleName();
        }
    }

    /** The table of calls has each one of the face, with as many things as it takes. */
    private static void compareCalls(String page, TreeMap<String, Method> face) {
        TreeSet<String> named = new TreeSet<>();
        Matcher call = CALL.matcher(page);
        while (call.find()) {
            int takes = call.group(2).isEmpty() ? 0 : call.group(2).split(", ").length;
            CHECK.due("a call is named once: " + call.group(1), named.add(call.group(1)), true);
            CHECK.due("a call of the face: " + call.group(1), face.containsKey(call.group(1)), true);
            if (face.containsKey(call.group(1))) {
                CHECK.due("how many it takes: " + call.group(1), takes, face.get(call.group(1)).getParameterCount());
            }
        }
        CHECK.due("the calls", named.toString(), face.keySet().toString());
    }

    /** Each text's example is read by the calls that are told to read it. */
    private static void readTexts(String page, TreeMap<String, Method> face) throws IllegalAccessException {
        int texts = 0;
        Matcher text = TEXT.matcher(page);
        while (text.find()) {
            for (String reader : text.group(1).split(", ")) {
                Method method = face.get(reader.replaceAll("[`()]", ""));
                BumpsRiver river = text.group(2).startsWith("30;") ? new BumpsRiver() : Check.with("30;50;40");
                Check.say(river, text.group(2));
                CHECK.due(reader + " reads " + text.group(2), Integer.parseInt(answer(river, method, "")) >= 0, true);
                CHECK.due(reader + " empties it", river.count(10), 0);
                texts++;
            }
        }
        CHECK.due("texts were read", texts, 7);
    }
}
