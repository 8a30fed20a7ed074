import java.io.File;
import java.io.IOException;
import java.io.PrintWriter;
import java.io.Writer;
import java.net.URI;
import java.nio.file.Files;
import java.nio.file.Path;
import java.util.ArrayList;
import java.util.Arrays;
import java.util.Comparator;
import java.util.List;
import java.util.concurrent.ExecutorService;
import java.util.concurrent.Executors;
import java.util.concurrent.Future;
import java.util.concurrent.TimeUnit;
import java.util.regex.Matcher;
import java.util.regex.Pattern;
import javax.tools.JavaCompiler;
import javax.tools.JavaFileObject;
import javax.tools.SimpleJavaFileObject;
import javax.tools.ToolProvider;

/**
 * Breaks the program in one place at a time and tells which breaks no test notices: a sentence's test is worth
 * something only if it fails when the sentence is broken. It is run by hand and is no part of .ci/run, for some
 * breaks change no answer at all (a bound that no run can reach), and which ones these are only a reader can say.
 *
 *   java src/mutants/java/Mutants.java [tests, without .java; else all that end in EdgesTest]
 */
public final class Mutants {
    private static final Path PROGRAM = Path.of("src/main/java/GreenJars.java");
    private static final Path TESTS = Path.of("src/test/java");
    private static final int SECONDS = 20;
    // What is found, and what stands there instead.
    private static final String[][] BREAKS = {
        {" < ", " <= ", " > "}, {" <= ", " < "}, {" > ", " >= ", " < "}, {" >= ", " > "}, {" == ", " != "}, {" != ", " == "},
        {" && ", " || "}, {" || ", " && "}, {" + ", " - "}, {" - ", " + "}, {" * ", " + "}, {" / ", " * "}, {" % ", " / "},
        {" += ", " -= "}, {" |= ", " = "}, {"++;", "--;"}, {"--;", "++;"}, {"++)", "--)"}, {" >>> ", " >> "}, {"!", ""},
        {"true", "false"}, {"false", "true"}, {"break;", ";"}, {"Math.min", "Math.max"}, {"Math.max", "Math.min"}
    };

    private record Mutant(int line, String was, String is, String source) {
    }

    public static void main(String[] args) throws Exception {
        List<String> lines = Files.readAllLines(PROGRAM);
        List<Mutant> mutants = new ArrayList<>();
        for (int k = 0; k < lines.size(); k++) {
            addMutants(lines, k, mutants);
        }
        Path work = Files.createTempDirectory("mutants");
        List<String> tests = args.length > 0 ? Arrays.asList(args) : edgesTests();
        compileTests(work, tests);
        ExecutorService workers = Executors.newFixedThreadPool(Runtime.getRuntime().availableProcessors());
        List<Future<String>> fates = new ArrayList<>();
        for (int k = 0; k < mutants.size(); k++) {
            Mutant mutant = mutants.get(k);
            Path place = work.resolve("m" + k);
            fates.add(workers.submit(() -> fateOf(mutant, place, work)));
        }
        tell(mutants, fates);
        workers.shutdown();
        remove(work);
    }

    private static void remove(Path work) throws IOException {
        try (var files = Files.walk(work)) {
            for (Path file : files.sorted(Comparator.reverseOrder()).toList()) {
                Files.delete(file);
            }
        }
    }

    private static void tell(List<Mutant> mutants, List<Future<String>> fates) throws Exception {
        int noticed = 0;
        int none = 0;
        int left = 0;
        for (int k = 0; k < mutants.size(); k++) {
            String fate = fates.get(k).get();
            noticed += fate.equals("noticed") ? 1 : 0;
            none += fate.equals("no program") ? 1 : 0;
            if (fate.equals("not noticed")) {
                left++;
                Mutant mutant = mutants.get(k);
                System.out.println("line " + mutant.line + ": " + mutant.was.strip() + "\n      as: " + mutant.is.strip());
            }
        }
        System.out.println(noticed + " noticed, " + left + " not noticed, " + none + " are no program");
    }

    private static List<String> edgesTests() throws IOException {
        List<String> names = new ArrayList<>();
        try (var files = Files.list(TESTS)) {
            files.map(file -> file.getFileName().toString()).filter(name -> name.endsWith("EdgesTest.java")).sorted()
                .forEach(name -> names.add(name.replace(".java", "")));
        }
        return names;
    }

    private static void addMutants(List<String> lines, int at, List<Mutant> mutants) {
        String line = lines.get(at);
        String code = line.strip();
        if (code.startsWith("//") || code.startsWith("/*") || code.startsWith("*")) {
            return;
        }
        for (String[] one : BREAKS) {
            for (int from = line.indexOf(one[0]); from >= 0; from = line.indexOf(one[0], from + 1)) {
                for (int k = 1; k < one.length; k++) {
                    add(lines, at, line.substring(0, from) + one[k] + line.substring(from + one[0].length()), mutants);
                }
            }
        }
        Matcher numbers = Pattern.compile("(?<![\\w.])\\d+(?=L?\\b)").matcher(line);
        while (numbers.find()) {
            long number = Long.parseLong(numbers.group());
            String ahead = line.substring(0, numbers.start());
            String behind = line.substring(numbers.end());
            add(lines, at, ahead + (number + 1) + behind, mutants);
            add(lines, at, ahead + (number - 1) + behind, mutants);
        }
        // A doing left out: a call, or a figure that is set.
        if (code.endsWith(";") && !code.startsWith("return") && !code.startsWith("private") && !code.startsWith("case")
            && !code.startsWith("public") && !code.startsWith("default") && !code.startsWith("int ") && !code.startsWith("boolean ")) {
            add(lines, at, ";", mutants);
        }
        if (code.startsWith("if (") && code.endsWith(") {")) {
            add(lines, at, line.replaceFirst("if \\((.*)\\) \\{$", "if (!($1)) {"), mutants);
            add(lines, at, line.replaceFirst("if \\((.*)\\) \\{$", "if (($1) && 1 > 2) {"), mutants);
        }
    }

    private static void add(List<String> lines, int at, String is, List<Mutant> mutants) {
        List<String> changed = new ArrayList<>(lines);
        changed.set(at, is);
        mutants.add(new Mutant(at + 1, lines.get(at), is, String.join("\n", changed)));
    }

    private static void compileTests(Path work, List<String> tests) throws Exception {
        List<String> command = new ArrayList<>(List.of("-d", work.resolve("tests").toString(), "-sourcepath", TESTS.toString(),
            PROGRAM.toString()));
        for (String test : tests) {
            command.add(TESTS.resolve(test + ".java").toString());
        }
        Path runner = work.resolve("All.java");
        StringBuilder all = new StringBuilder("public class All { public static void main(String[] a) throws Exception {");
        for (String test : tests) {
            all.append(test).append(".main(a);");
        }
        Files.writeString(runner, all.append("}}").toString());
        command.add(runner.toString());
        if (ToolProvider.getSystemJavaCompiler().run(null, null, null, command.toArray(new String[0])) != 0) {
            throw new IllegalStateException("the tests do not compile");
        }
    }

    private static String fateOf(Mutant mutant, Path place, Path work) throws Exception {
        Files.createDirectories(place);
        if (!compiles(mutant.source, place)) {
            return "no program";
        }
        String path = place + File.pathSeparator + work.resolve("tests");
        Process run = new ProcessBuilder("java", "-XX:TieredStopAtLevel=1", "-XX:+UseSerialGC", "-cp", path, "All")
            .redirectErrorStream(true).redirectOutput(ProcessBuilder.Redirect.DISCARD).start();
        if (!run.waitFor(SECONDS, TimeUnit.SECONDS)) {
            run.destroyForcibly();
            return "noticed";
        }
        return run.exitValue() == 0 ? "not noticed" : "noticed";
    }

    private static boolean compiles(String source, Path place) {
        JavaCompiler compiler = ToolProvider.getSystemJavaCompiler();
        JavaFileObject file = new SimpleJavaFileObject(URI.create("string:///GreenJars.java"), JavaFileObject.Kind.SOURCE) {
            @Override
            public CharSequence getCharContent(boolean ignore) {
                return source;
            }
        };
        return compiler.getTask(new PrintWriter(Writer.nullWriter()), null, null, List.of("-d", place.toString()), null,
            List.of(file)).call();
    }
}
