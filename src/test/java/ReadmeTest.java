import java.lang.reflect.Method;
import java.nio.file.Files;
import java.nio.file.Path;
import java.util.Arrays;
import java.util.List;
import java.util.TreeSet;
import java.util.regex.Matcher;
import java.util.regex.Pattern;

/** README.md: its examples answer what it says, and it names every call and every test. */
public final class ReadmeTest {
    private static final Pattern MAKES = Pattern.compile("HeWillNotPlead x = new HeWillNotPlead\\(\\);");
    private static final Pattern PUTS = Pattern.compile("put\\(x, \"(.*)\"\\);");
    private static final Pattern CALLS = Pattern.compile("x\\.(\\w+)\\((.*)\\); +// (-?\\d+)(:.*)?");

    private HeWillNotPlead x = null;
    private int calls = 0;

    public static void main(String[] args) throws Exception {
        List<String> lines = Files.readAllLines(Path.of("README.md"));
        new ReadmeTest().examples(lines);
        texts(lines);
        everyCall(String.join("\n", lines));
        everyTest(String.join("\n", lines));
        Check.finish();
    }

    private void examples(List<String> lines) throws Exception {
        boolean isJava = false;
        for (String line : lines) {
            if (line.startsWith("```")) {
                isJava = line.equals("```java");
            } else if (isJava) {
                example(line);
            }
        }
        Check.due("examples", calls > 20, true);
    }

    private void example(String line) throws Exception {
        Matcher puts = PUTS.matcher(line);
        Matcher call = CALLS.matcher(line);
        if (MAKES.matcher(line).matches()) {
            x = new HeWillNotPlead();
        } else if (puts.matches()) {
            Check.put(x, puts.group(1));
        } else if (call.matches()) {
            calls++;
            Check.due(line, answer(call.group(1), call.group(2)), Long.parseLong(call.group(3)));
        } else {
            Check.same("an example", line, "a call and what it answers");
        }
    }

    private long answer(String name, String told) throws Exception {
        String[] parts = told.isEmpty() ? new String[0] : told.split(", ");
        Class<?>[] types = new Class<?>[parts.length];
        Arrays.fill(types, int.class);
        Object[] arguments = Arrays.stream(parts).map(Integer::decode).toArray();
        return ((Number) HeWillNotPlead.class.getMethod(name, types).invoke(x, arguments)).longValue();
    }

    /** The texts of the table are right ones. */
    private static void texts(List<String> lines) throws Exception {
        int count = 0;
        for (String line : lines) {
            Matcher row = Pattern.compile("\\| `(\\w+)` \\| `(.*?)` \\|.*").matcher(line);
            if (row.matches()) {
                HeWillNotPlead y = Check.with(row.group(1).equals("prisoners") ? "" : "9,9+0", "");
                Method reader = HeWillNotPlead.class.getMethod(row.group(1));
                Check.due(line, (int) reader.invoke(Check.put(y, row.group(2))) >= 0, true);
                count++;
            }
        }
        Check.due("calls that read a text", count, 7);
    }

    private static void everyCall(String all) {
        for (Method method : HeWillNotPlead.class.getDeclaredMethods()) {
            String name = "`" + method.getName() + "`";
            if (java.lang.reflect.Modifier.isPublic(method.getModifiers())) {
                Check.due(name + " is named", all.contains(name), true);
            }
        }
    }

    private static void everyTest(String all) throws Exception {
        TreeSet<String> there = new TreeSet<>();
        try (var files = Files.list(Path.of("src/test/java"))) {
            files.map(file -> file.getFileName().toString()).filter(name -> name.endsWith("Test.java"))
                    .forEach(name -> there.add(name.replace(".java", "")));
        }
        TreeSet<String> named = new TreeSet<>();
        Matcher row = Pattern.compile("(?m)^\\| (\\w+Test) \\|").matcher(all);
        while (row.find()) {
            named.add(row.group(1));
        }
        Check.same("the tests", named.toString(), there.toString());
    }
}
