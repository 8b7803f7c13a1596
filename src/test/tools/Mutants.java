import java.io.IOException;
import java.nio.file.Files;
import java.nio.file.Path;
import java.util.ArrayList;
import java.util.Comparator;
import java.util.List;
import java.util.Map;
import java.util.concurrent.ExecutorService;
import java.util.concurrent.Executors;
import java.util.concurrent.Future;
import java.util.concurrent.TimeUnit;
import java.util.regex.Matcher;
import java.util.regex.Pattern;
import java.util.stream.Stream;
import javax.tools.ToolProvider;

/**
 * Breaks the class in one place at a time and tells which breaks a test does not notice. By hand, from the
 * project's folder: java src/test/tools/Mutants.java [test] (EdgesTest if none is named).
 */
public final class Mutants {
    private static final Path SOURCE = Path.of("src/main/java/GuineaHours.java");
    private static final Path TESTS = Path.of("src/test/java");
    private static final int SECONDS = 60;
    private static final int MAX = Integer.MAX_VALUE;

    /** A piece of the source and what stands there instead. */
    private record Break(int at, int end, String instead) {
    }

    private static final Map<String, List<String>> SIGNS = Map.ofEntries(
        Map.entry(" < ", List.of(" <= ")), Map.entry(" <= ", List.of(" < ")),
        Map.entry(" > ", List.of(" >= ")), Map.entry(" >= ", List.of(" > ")),
        Map.entry(" == ", List.of(" != ")), Map.entry(" != ", List.of(" == ")),
        Map.entry(" && ", List.of(" || ")), Map.entry(" || ", List.of(" && ")),
        Map.entry(" + ", List.of(" - ")), Map.entry(" - ", List.of(" + ")),
        Map.entry(" * ", List.of(" + ")), Map.entry(" / ", List.of(" * ")), Map.entry(" % ", List.of(" / ")),
        Map.entry(" & ", List.of(" | ")), Map.entry(" |= ", List.of(" = ")), Map.entry(" &= ", List.of(" = ")),
        Map.entry(" += ", List.of(" = ")), Map.entry("++;", List.of("--;", ";")), Map.entry("--;", List.of("++;", ";")),
        Map.entry("Math.max", List.of("Math.min")), Map.entry("Math.min", List.of("Math.max")));

    private static final List<String> ANSWERS = List.of("BAD", "FULL", "STATE", "NONE", "NOTHING", "BEYOND", "UNLIKE",
        "NOUGHT", "SIZE");

    public static void main(String[] args) throws Exception {
        String test = args.length > 0 ? args[0] : "EdgesTest";
        String source = Files.readString(SOURCE);
        List<Break> breaks = breaksOf(source);
        Path folder = Files.createTempDirectory("mutants");
        ExecutorService workers = Executors.newFixedThreadPool(Runtime.getRuntime().availableProcessors());
        try {
            Path tests = compileTests(folder);
            List<Future<String>> answers = new ArrayList<>();
            for (int n = 0; n < breaks.size(); n++) {
                Break b = breaks.get(n);
                Path own = folder.resolve("m" + n);
                answers.add(workers.submit(() -> tryOne(source, b, own, tests, test)));
            }
            int unnoticed = 0;
            int compiled = 0;
            for (int n = 0; n < breaks.size(); n++) {
                String answer = answers.get(n).get();
                compiled += answer.isEmpty() ? 0 : 1;
                if (answer.equals("unnoticed")) {
                    unnoticed++;
                    System.out.println(tell(source, breaks.get(n)));
                }
            }
            System.out.println(compiled + " breaks, " + unnoticed + " that " + test + " does not notice");
        } finally {
            workers.shutdownNow();
            delete(folder);
        }
    }

    private static List<Break> breaksOf(String source) {
        List<Break> found = new ArrayList<>();
        String code = blankComments(source);
        int body = code.indexOf("private static final int NOTHING");
        SIGNS.forEach((sign, others) -> {
            for (int at = code.indexOf(sign, body); at >= 0; at = code.indexOf(sign, at + 1)) {
                for (String other : others) {
                    found.add(new Break(at, at + sign.length(), other));
                }
            }
        });
        for (Matcher m = Pattern.compile("\\b\\d+\\b").matcher(code); m.find();) {
            if (m.start() > body) {
                int value = Integer.parseInt(m.group());
                found.add(new Break(m.start(), m.end(), "" + (value == MAX ? value - 1 : value + 1)));
                found.add(new Break(m.start(), m.end(), "(" + (value - 1) + ")"));
            }
        }
        for (Matcher m = Pattern.compile("\\b(return |found\\(|\\? |: )(" + String.join("|", ANSWERS) + ")\\b").matcher(code); m.find();) {
            for (String other : ANSWERS) {
                if (!other.equals(m.group(2))) {
                    found.add(new Break(m.start(2), m.end(2), other));
                }
            }
        }
        for (Matcher m = Pattern.compile("\\b(true|false)\\b").matcher(code); m.find();) {
            found.add(new Break(m.start(), m.end(), m.group().equals("true") ? "false" : "true"));
        }
        for (Matcher m = Pattern.compile("\\bif \\((.*)\\) \\{").matcher(code); m.find();) {
            found.add(new Break(m.start(1), m.end(1), "true == (1 > 0)"));
            found.add(new Break(m.start(1), m.end(1), "true == (1 < 0)"));
        }
        for (Matcher m = Pattern.compile("[(&|] ?(!)\\w").matcher(code); m.find();) {
            found.add(new Break(m.start(1), m.end(1), ""));
        }
        for (Matcher m = Pattern.compile("(?m)^ +([\\w.\\[\\]]+(\\(.*\\)|( \\+| \\||  &)?= [^;]*));$").matcher(code); m.find();) {
            if (m.start() > body) {
                found.add(new Break(m.start(1), m.end(1), ""));
            }
        }
        found.sort(Comparator.comparingInt(Break::at));
        return found;
    }

    /** As long as the source, so that places stay. */
    private static String blankComments(String source) {
        StringBuilder code = new StringBuilder(source);
        for (Matcher m = Pattern.compile("(?s)/\\*.*?\\*/|//[^\n]*").matcher(source); m.find();) {
            for (int i = m.start(); i < m.end(); i++) {
                code.setCharAt(i, source.charAt(i) == '\n' ? '\n' : ' ');
            }
        }
        return code.toString();
    }

    private static Path compileTests(Path folder) throws IOException {
        Path out = Files.createDirectories(folder.resolve("tests"));
        List<String> files = new ArrayList<>(List.of("-encoding", "UTF-8", "-d", out.toString(), SOURCE.toString()));
        try (Stream<Path> all = Files.list(TESTS)) {
            all.filter(f -> f.toString().endsWith(".java")).forEach(f -> files.add(f.toString()));
        }
        ToolProvider.getSystemJavaCompiler().run(null, null, null, files.toArray(new String[0]));
        return out;
    }

    /** "unnoticed", "noticed", or nothing if it is no Java. */
    private static String tryOne(String source, Break b, Path own, Path tests, String test) throws Exception {
        Path out = Files.createDirectories(own.resolve("out"));
        Path file = own.resolve("GuineaHours.java");
        Files.writeString(file, source.substring(0, b.at) + b.instead + source.substring(b.end));
        int failed = ToolProvider.getSystemJavaCompiler().run(null, java.io.OutputStream.nullOutputStream(),
            java.io.OutputStream.nullOutputStream(), "-nowarn", "-d", out.toString(), file.toString());
        if (failed != 0) {
            return "";
        }
        Process run = new ProcessBuilder("java", "-XX:TieredStopAtLevel=1", "-cp", out + java.io.File.pathSeparator + tests, test)
            .redirectErrorStream(true).redirectOutput(ProcessBuilder.Redirect.DISCARD).start();
        boolean ended = run.waitFor(SECONDS, TimeUnit.SECONDS);
        if (!ended) {
            run.destroyForcibly();
        }
        delete(own);
        return ended && run.exitValue() == 0 ? "unnoticed" : "noticed";
    }

    private static String tell(String source, Break b) {
        int line = (int) source.substring(0, b.at).chars().filter(c -> c == '\n').count() + 1;
        int start = source.lastIndexOf('\n', b.at) + 1;
        int end = source.indexOf('\n', b.at);
        return line + ": " + source.substring(start, b.at).stripLeading() + "[" + source.substring(b.at, b.end) + " -> "
            + b.instead + "]" + source.substring(b.end, end);
    }

    private static void delete(Path folder) throws IOException {
        try (Stream<Path> all = Files.walk(folder)) {
            for (Path p : all.sorted(Comparator.reverseOrder()).toList()) {
                Files.deleteIfExists(p);
            }
        }
    }
}
