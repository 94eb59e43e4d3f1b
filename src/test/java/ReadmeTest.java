import java.io.IOException;
import java.nio.file.Files;
import java.nio.file.Path;
import java.util.ArrayList;
import java.util.List;
import java.util.regex.Matcher;
import java.util.regex.Pattern;

/**
 * README.md stands at the project's root: each command of it that is not .ci/run ends well in a copy of the project,
 * its example answers what stands behind each call, and the folders and files that it names are there.
 * What it says of .ci/run is tested by CiRunTest.
 */
public final class ReadmeTest {
    private static final Pattern CALL = Pattern.compile("(festival\\.\\w+\\(.*?\\));\\s+// (true|false|-?\\d+)\\b.*");

    public static void main(String[] args) throws IOException, InterruptedException {
        Path readme = Path.of("README.md");
        Check.same("README.md is there", Files.isRegularFile(readme), true);
        String text = Files.readString(readme);
        List<String> blocks = indented(text);
        Project project = new Project().take("src");
        int commands = 0;
        int examples = 0;
        for (int i = 0; i < blocks.size(); i++) {
            String line = blocks.get(i);
            if (line.startsWith("javac ") || line.startsWith("java ")) {
                List<String> said = project.run(line);
                Check.same(line, said.get(said.size() - 1), "0");
                commands++;
            } else if (line.startsWith("Juryreel festival")) {
                example(project, line, calls(blocks, i + 1));
                examples++;
            }
        }
        project.remove();
        Check.same("how it is compiled and one test is run", commands, 3);
        Check.same("how it is used", examples, 1);
        Check.same("how its tests are run", blocks.contains(".ci/run"), true);
        Check.same("it can be run", Files.isExecutable(Path.of(".ci/run")), true);
        Check.same("the end of the run", text.contains("`N passed, N failed`"), true);
        thingsNamed(text);
        Check.end();
    }

    private static List<String> indented(String text) {
        List<String> lines = new ArrayList<>();
        for (String line : text.lines().toList()) {
            if (line.startsWith("    ")) {
                lines.add(line.substring(4));
            }
        }
        return lines;
    }

    private static List<Matcher> calls(List<String> lines, int from) {
        List<Matcher> calls = new ArrayList<>();
        for (int i = from; i < lines.size() && lines.get(i).startsWith("festival."); i++) {
            Matcher call = CALL.matcher(lines.get(i));
            Check.same("a call and its answer: " + lines.get(i), call.matches(), true);
            calls.add(call);
        }
        return calls;
    }

    /** The example as it stands, in a program of its own that prints what each call answers. */
    private static void example(Project project, String first, List<Matcher> calls) throws IOException, InterruptedException {
        StringBuilder program = new StringBuilder("public final class Example {\n");
        program.append("public static void main(String[] args) {\n").append(first).append('\n');
        for (Matcher call : calls) {
            program.append("System.out.println(").append(call.group(1)).append(");\n");
        }
        project.put("Example.java", program.append("}\n}\n").toString());
        List<String> said = project.run("javac --release 17 -cp out -d out Example.java && java -cp out Example");
        Check.same("all calls are answered", said.size(), calls.size() + 1);
        for (int i = 0; i < calls.size() && i < said.size(); i++) {
            Check.same(calls.get(i).group(1), said.get(i), calls.get(i).group(2));
        }
    }

    private static void thingsNamed(String text) {
        Matcher named = Pattern.compile("`([\\w./]+/[\\w./]+)`").matcher(text);
        int many = 0;
        while (named.find()) {
            Check.same(named.group(1) + " is there", Files.exists(Path.of(named.group(1))), true);
            many++;
        }
        Check.same("files and folders are named", many > 4, true);
    }
}
