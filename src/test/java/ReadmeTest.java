import java.io.IOException;
import java.net.URL;
import java.net.URLClassLoader;
import java.nio.file.Files;
import java.nio.file.Path;
import java.util.ArrayList;
import java.util.Comparator;
import java.util.List;
import java.util.regex.Matcher;
import java.util.regex.Pattern;
import java.util.stream.Stream;
import javax.tools.ToolProvider;

/** The calls that README.md shows answer what it says. */
public final class ReadmeTest {
    private static final Check check = new Check();
    private static final Pattern CALL = Pattern.compile("hand\\.(\\w+)\\((.*)\\); +// (-?\\d+)(: .*)?");

    public static void main(String[] args) throws Exception {
        String readme = Files.readString(Path.of("README.md"));
        int begins = readme.indexOf("```java\n");
        int ends = readme.indexOf("\n```\n", begins + 1);
        check.due("README.md has a block of Java", begins >= 0 && ends > begins ? 1 : 0, 1);
        String block = readme.substring(begins + "```java\n".length(), ends);
        List<String> calls = new ArrayList<>();
        List<Long> due = new ArrayList<>();
        String program = program(block, calls, due);
        long[] answers = answers(program, calls.size());
        for (int i = 0; i < answers.length; i++) {
            check.due("README.md: " + calls.get(i), answers[i], due.get(i));
        }
        check.due("README.md shows calls", calls.size() > 40 ? 1 : 0, 1);
        check.due("README.md says how to run the tests", readme.contains("\n    .ci/run\n") ? 1 : 0, 1);
        check.finish();
    }

    /** The block as a class whose method keeps each answer; only a call within a loop may tell none. */
    private static String program(String block, List<String> calls, List<Long> due) {
        StringBuilder text = new StringBuilder("public final class Shown {\n public static void run(long[] kept) {\n");
        for (String line : block.split("\n")) {
            Matcher call = CALL.matcher(line);
            if (call.matches()) {
                String told = "hand." + call.group(1) + "(" + call.group(2) + ")";
                text.append("kept[").append(calls.size()).append("] = ").append(told).append(";\n");
                calls.add(told);
                due.add(Long.valueOf(call.group(3)));
            } else {
                check.due("README.md tells an answer: " + line, line.startsWith("hand.") ? 1 : 0, 0);
                text.append(line).append('\n');
            }
        }
        return text.append(" }\n}\n").toString();
    }

    private static long[] answers(String program, int many) throws Exception {
        Path room = Files.createTempDirectory("readme");
        try {
            Path source = Files.writeString(room.resolve("Shown.java"), program);
            int failed = ToolProvider.getSystemJavaCompiler().run(null, null, null,
                    "-cp", System.getProperty("java.class.path"), "-d", room.toString(), source.toString());
            check.due("README.md compiles", failed, 0);
            long[] kept = new long[many];
            if (failed == 0) {
                try (URLClassLoader loader = new URLClassLoader(new URL[] {room.toUri().toURL()})) {
                    loader.loadClass("Shown").getMethod("run", long[].class).invoke(null, (Object) kept);
                }
            }
            return kept;
        } finally {
            remove(room);
        }
    }

    private static void remove(Path room) throws IOException {
        try (Stream<Path> files = Files.walk(room)) {
            for (Path file : files.sorted(Comparator.reverseOrder()).toList()) {
                Files.delete(file);
            }
        }
    }
}
