import java.io.IOException;
import java.util.ArrayList;
import java.util.List;

/** What README.md says of .ci/run, by small projects in which it runs: what it counts, prints and fails by. */
public final class CiRunTest {
    private static final int AT_ONCE = 4;
    private static final String MAIN = "src/main/java/Juryreel.java";
    private static final String OWN = "src/test/java/SmallTest.java";
    private static final String GIVEN = "../shared/tests/Given.java";
    private static final String GOOD_MAIN = "public final class Juryreel {\n}\n";
    private static final String GOOD_GIVEN = given("");

    private final String what;
    private final Project project;
    private Process process;
    private final String due;
    private final boolean isGood;

    private CiRunTest(String what, String main, String own, String given, String due) throws IOException {
        this.what = what;
        this.due = due;
        isGood = due.endsWith(", 0 failed");
        project = new Project().take(".ci/run").put(MAIN, main).put(OWN, own);
        if (given != null) {
            project.put(GIVEN, given);
        }
    }

    public static void main(String[] args) throws IOException, InterruptedException {
        List<CiRunTest> runs = new ArrayList<>();
        runs.add(new CiRunTest("all is well", GOOD_MAIN, own(3, 0, ""), GOOD_GIVEN, "6 passed, 0 failed"));
        runs.add(new CiRunTest("no project's check", GOOD_MAIN, own(0, 0, ""), GOOD_GIVEN, "3 passed, 0 failed"));
        runs.add(new CiRunTest("a project's check fails", GOOD_MAIN, own(2, 1, "System.exit(1);"), GOOD_GIVEN, "5 passed, 1 failed"));
        runs.add(new CiRunTest("without its exit code too", GOOD_MAIN, own(2, 1, ""), GOOD_GIVEN, "5 passed, 1 failed"));
        runs.add(new CiRunTest("its exit code alone", GOOD_MAIN, own(2, 0, "System.exit(4);"), GOOD_GIVEN, "5 passed, 1 failed"));
        runs.add(new CiRunTest("it ends without its counts", GOOD_MAIN, "public final class SmallTest {\n"
            + "public static void main(String[] args) {\nthrow new IllegalStateException();\n}\n}\n", GOOD_GIVEN, "3 passed, 1 failed"));
        runs.add(new CiRunTest("a given test fails", GOOD_MAIN, own(3, 0, ""), given("System.exit(1);"), "5 passed, 1 failed"));
        runs.add(new CiRunTest("by any exit code but 0", GOOD_MAIN, own(3, 0, ""), given("System.exit(77);"), "5 passed, 1 failed"));
        runs.add(new CiRunTest("a given test does not compile", GOOD_MAIN, own(3, 0, ""), given("no Java"), "5 passed, 1 failed"));
        runs.add(new CiRunTest("there is no given test", GOOD_MAIN, own(3, 0, ""), null, "4 passed, 1 failed"));
        runs.add(new CiRunTest("the class does not compile", "no Java", own(3, 0, ""), GOOD_GIVEN, "1 passed, 3 failed"));
        runs.add(new CiRunTest("the class is none of Java 17", "public final class Juryreel {\nstatic int f(Object x) {\n"
            + "return switch (x) { case String s -> 1; default -> 0; };\n}\n}\n", own(3, 0, ""), GOOD_GIVEN, "1 passed, 3 failed"));
        for (int i = 0; i < runs.size(); i += AT_ONCE) {
            List<CiRunTest> some = runs.subList(i, Math.min(i + AT_ONCE, runs.size()));
            for (CiRunTest run : some) {
                run.process = run.project.start("cd src && sh ../.ci/run");
            }
            for (CiRunTest run : some) {
                run.end();
            }
        }
        Check.end();
    }

    /** A project's test with these counts, and something that it does at its end. */
    private static String own(int passed, int failed, String end) {
        return "public final class SmallTest {\npublic static void main(String[] args) {\n"
            + "System.out.println(\"COUNT " + passed + " " + failed + "\");\n" + end + "\n}\n}\n";
    }

    private static String given(String end) {
        return "public final class Given {\npublic static void main(String[] args) {\nnew Juryreel();\n" + end + "\n}\n}\n";
    }

    private void end() throws IOException, InterruptedException {
        List<String> said = Project.wait(process);
        project.remove();
        Check.same(what + ": the last line", said.size() > 1 ? said.get(said.size() - 2) : "", due);
        Check.same(what + ": the exit code", said.get(said.size() - 1).equals("0"), isGood);
    }
}
