import java.lang.reflect.Method;
import java.lang.reflect.Modifier;
import java.nio.file.Files;
import java.nio.file.Path;
import java.util.ArrayList;
import java.util.List;
import java.util.regex.Matcher;
import java.util.regex.Pattern;
import java.util.stream.Stream;

/** README.md: each call of its example answers as it says there, no call is left out, and no test. */
public final class ReadmeTest {
    private static final Due DUE = new Due("ReadmeTest");
    private static final String BEGIN = "LoadSpans x = new LoadSpans();\n";
    private static final Pattern TEXT = Pattern.compile("tell\\(x, (\"[^;]*;[^)]*\")\\);");
    private static final Pattern CALL = Pattern.compile("x\\.(\\w+)\\(([-\\d, ]*)\\); +// (-?\\d+|true|false)(:.*)?");

    public static void main(String[] args) throws Exception {
        String readme = Files.readString(Path.of("README.md"));
        int asked = example(readme);
        DUE.is("many calls stand in the example: " + asked, asked > 20, true);
        calls(readme);
        tests(readme);
        DUE.close();
    }

    private static int example(String readme) throws Exception {
        int from = readme.indexOf(BEGIN);
        DUE.is("there is an example", from >= 0, true);
        String code = readme.substring(from + BEGIN.length(), readme.indexOf("```", from)).replaceAll("\"\n +\\+ \"", "");
        LoadSpans x = new LoadSpans();
        int asked = 0;
        for (String line : code.split("\n")) {
            Matcher text = TEXT.matcher(line);
            Matcher call = CALL.matcher(line);
            if (text.matches()) {
                tell(x, text.group(1).replace("\"", ""));
            } else if (call.matches()) {
                asked++;
                DUE.is(line, answer(x, call.group(1), call.group(2)), due(call.group(3)));
            } else {
                DUE.is("what can be asked: " + line, false, true);
            }
        }
        return asked;
    }

    private static long due(String told) {
        return told.equals("true") ? 1 : told.equals("false") ? 0 : Long.parseLong(told);
    }

    private static long answer(LoadSpans x, String name, String told) throws Exception {
        List<Object> numbers = new ArrayList<>();
        for (String number : told.split(",")) {
            if (!number.isBlank()) {
                numbers.add(Integer.parseInt(number.trim()));
            }
        }
        Class<?>[] types = new Class<?>[numbers.size()];
        java.util.Arrays.fill(types, int.class);
        Object answer = LoadSpans.class.getMethod(name, types).invoke(x, numbers.toArray());
        return answer instanceof Boolean so ? (so ? 1 : 0) : (Integer) answer;
    }

    /** As README.md says that a text is told. */
    private static void tell(LoadSpans x, String text) {
        x.end(0);
        for (int at = 0; at < text.length(); at += 20) {
            int[] five = new int[5];
            for (int i = 0; i < 20; i++) {
                five[i / 4] = five[i / 4] << 8 | (at + i < text.length() ? text.charAt(at + i) : 0);
            }
            x.feed(five[0], five[1], five[2], five[3], five[4]);
        }
        x.end(text.length());
    }

    private static void calls(String readme) {
        String all = readme.substring(readme.indexOf("All calls:"), readme.indexOf("## How to run the tests"));
        for (Method m : LoadSpans.class.getDeclaredMethods()) {
            if (Modifier.isPublic(m.getModifiers())) {
                Matcher told = Pattern.compile("`" + m.getName() + "\\(([^)]*)\\)`").matcher(all);
                boolean found = told.find();
                DUE.is("README tells of " + m.getName(), found, true);
                int arguments = !found || told.group(1).isEmpty() ? 0 : told.group(1).split(",").length;
                DUE.is("arguments of " + m.getName(), arguments, m.getParameterCount());
            }
        }
    }

    private static void tests(String readme) throws Exception {
        try (Stream<Path> files = Files.list(Path.of("src/test/java"))) {
            files.map(f -> f.getFileName().toString()).filter(f -> f.endsWith("Test.java")).forEach(f ->
                DUE.is("README tells of " + f, readme.contains("`" + f.replace(".java", "") + "`"), true));
        }
        Matcher told = Pattern.compile("`(\\w+Test)`").matcher(readme);
        while (told.find()) {
            DUE.is(told.group(1) + " is there", Files.exists(Path.of("src/test/java/" + told.group(1) + ".java")), true);
        }
    }
}
