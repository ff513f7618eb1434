import java.io.IOException;
import java.lang.reflect.InvocationTargetException;
import java.net.URL;
import java.net.URLClassLoader;
import java.nio.file.Files;
import java.nio.file.Path;
import java.util.List;
import java.util.regex.Matcher;
import java.util.regex.Pattern;
import javax.tools.ToolProvider;

/** README.md: what its examples tell is answered. Its java blocks are one program; 'x.call(..); // 3: ..' tells that 3 is due. */
public final class ReadmeTest {
    private static final Pattern TOLD = Pattern.compile("(x\\.\\w+\\(.*\\));\\s+// (-?\\d+): .*");

    public static void main(String[] args) throws Exception {
        StringBuilder program = new StringBuilder("public final class ReadmeExamples {\n    public static long[][] run() {\n");
        program.append("java.util.List<long[]> told = new java.util.ArrayList<>();\n");
        int told = write(program, Files.readAllLines(Path.of("README.md")));
        program.append("return told.toArray(new long[0][]);\n    }\n}\n");
        long[][] answers = run(program.toString());
        Due.due("how many answers README.md tells", answers.length, told);
        Due.due("some are told of each part", told >= 20 ? 1 : 0, 1);
        for (long[] answer : answers) Due.due("line " + answer[0] + " of README.md", answer[1], answer[2]);
        Due.finish();
    }

    /** How many lines tell an answer. */
    private static int write(StringBuilder program, List<String> lines) {
        boolean isJava = false;
        int told = 0;
        for (int k = 0; k < lines.size(); k++) {
            String line = lines.get(k);
            if (line.startsWith("```")) {
                isJava = line.equals("```java");
                continue;
            }
            if (!isJava) continue;
            Matcher call = TOLD.matcher(line);
            if (call.matches()) {
                told++;
                program.append("told.add(new long[] {" + (k + 1) + ", " + call.group(1) + ", " + call.group(2) + "L});\n");
            } else {
                program.append(line).append('\n');
            }
        }
        return told;
    }

    private static long[][] run(String program) throws IOException, ReflectiveOperationException {
        Path folder = Files.createTempDirectory("readme");
        Path source = folder.resolve("ReadmeExamples.java"), made = folder.resolve("ReadmeExamples.class");
        try {
            Files.writeString(source, program);
            int code = ToolProvider.getSystemJavaCompiler().run(null, null, null, "-cp", System.getProperty("java.class.path"),
                "-d", folder.toString(), source.toString());
            Due.due("javac of README.md's examples", code, 0);
            if (code != 0) return new long[0][];
            try (URLClassLoader loader = new URLClassLoader(new URL[] {folder.toUri().toURL()})) {
                return (long[][]) loader.loadClass("ReadmeExamples").getMethod("run").invoke(null);
            }
        } catch (InvocationTargetException thrown) {
            Due.due("README.md's examples threw " + thrown.getCause(), 1, 0);
            return new long[0][];
        } finally {
            Files.deleteIfExists(made);
            Files.deleteIfExists(source);
            Files.deleteIfExists(folder);
        }
    }
}
