import java.io.IOException;
import java.nio.file.Files;
import java.nio.file.Path;
import java.util.ArrayList;
import java.util.List;
import java.util.concurrent.ExecutorService;
import java.util.concurrent.Executors;
import java.util.concurrent.Future;

/**
 * Breaks one sentence of the document after the other in the class, as src/test/mutants.txt tells, and looks
 * whether that sentence's own test fails. It takes some minutes, so .ci/run leaves it out.
 */
public final class Mutants {
    private static final Path MAIN = Path.of("src/main/java/HeWillNotPlead.java");
    private static final Path LIST = Path.of("src/test/mutants.txt");

    public static void main(String[] args) throws Exception {
        String source = Files.readString(MAIN);
        Path tests = Files.createTempDirectory("mutants");
        compileTests(tests);
        ExecutorService workers = Executors.newFixedThreadPool(Runtime.getRuntime().availableProcessors());
        List<Future<String>> answers = new ArrayList<>();
        List<String> lines = Files.readAllLines(LIST);
        for (String line : lines) {
            answers.add(workers.submit(() -> look(source, tests, line.split("\t", -1))));
        }
        int wrong = 0;
        for (int k = 0; k < lines.size(); k++) {
            String answer = answers.get(k).get();
            if (!answer.isEmpty()) {
                wrong++;
                System.out.println(answer + ": " + lines.get(k));
            }
        }
        workers.shutdown();
        delete(tests);
        System.out.println(lines.size() + " mutants, " + wrong + " not found out");
        System.exit(wrong == 0 ? 0 : 1);
    }

    private static void compileTests(Path tests) throws Exception {
        List<String> command = new ArrayList<>(List.of("javac", "-nowarn", "-d", tests.toString(), MAIN.toString()));
        try (var files = Files.list(Path.of("src/test/java"))) {
            files.map(Path::toString).filter(name -> name.endsWith(".java")).forEach(command::add);
        }
        run(command);
        // the class itself comes from the mutant
        try (var files = Files.list(tests)) {
            for (Path file : files.filter(f -> f.getFileName().toString().startsWith("HeWillNotPlead")).toList()) {
                Files.delete(file);
            }
        }
    }

    /** Nothing, if the sentence's test fails. The parts: test, promise, sentence, behind what, old text, new text. */
    private static String look(String source, Path tests, String[] parts) throws Exception {
        int at = source.indexOf(unescaped(parts[4]), Math.max(0, source.indexOf(unescaped(parts[3]))));
        if (at < 0 || !source.contains(unescaped(parts[3]))) {
            return "not in the class any more";
        }
        String mutant = source.substring(0, at) + unescaped(parts[5])
                + source.substring(at + unescaped(parts[4]).length());
        Path out = Files.createTempDirectory("mutant");
        Path file = out.resolve("HeWillNotPlead.java");
        Files.writeString(file, mutant);
        run(List.of("javac", "-nowarn", "-d", out.toString(), file.toString()));
        if (!Files.exists(out.resolve("HeWillNotPlead.class"))) {
            return "does not compile";
        }
        String told = run(List.of("java", "-cp", out + ":" + tests, "EdgesOf" + parts[0] + "Test"));
        delete(out);
        String heading = parts[1].equals("0") ? "terms, '" : "promise " + parts[1] + ", '";
        for (String line : told.split("\n")) {
            String sentence = line.split("': ")[0];
            if (sentence.startsWith(heading) && sentence.contains(parts[2])) {
                return "";
            }
        }
        return "not found out";
    }

    private static void delete(Path directory) throws IOException {
        try (var files = Files.list(directory)) {
            for (Path file : files.toList()) {
                Files.delete(file);
            }
        }
        Files.delete(directory);
    }

    private static String unescaped(String text) {
        return text.replace("\\n", "\n");
    }

    private static String run(List<String> command) throws IOException, InterruptedException {
        Process process = new ProcessBuilder(command).redirectErrorStream(true).start();
        String told = new String(process.getInputStream().readAllBytes());
        process.waitFor();
        return told;
    }
}
