import java.io.File;
import java.io.IOException;
import java.nio.file.Files;
import java.nio.file.Path;
import java.util.ArrayList;
import java.util.List;
import java.util.Set;
import java.util.TreeSet;
import java.util.regex.Matcher;
import java.util.regex.Pattern;
import java.util.stream.Stream;

/** What README.md says: its examples with their answers, its codes, its tests, its commands. */
final class ReadmeTest {
    private static final Path README = Path.of("README.md");
    private static final Path TESTS = Path.of("src/test/java");
    private static final String COMMANDS_PLACE = "/tmp/fortheralds";
    private static final Pattern EXAMPLE =
            Pattern.compile("(int \\w+ = )?(country\\.\\w+\\([^;]*\\)); *// ([^:]+)(: .*)?");
    private static final Pattern LINE_SAID = Pattern.compile("the line is (\"[^\"]*\")");
    private static final Pattern CODE_SAID = Pattern.compile("\\| `([A-Z]+)` *\\| (-\\d+) ");
    /** What the program of the examples has beside them: one comparison for each type of answer. */
    private static final String FRAME = """
            public final class Examples {
                private static final int NONE = FortHeralds.NONE;
                private static final int BAD = FortHeralds.BAD;
                private static final int FULL = FortHeralds.FULL;
                private static final int REFUSED = FortHeralds.REFUSED;
                private static final int NOTHING = FortHeralds.NOTHING;
                private static int wrong = 0;
                private static int due(String call, int got, int want) {
                    tell(call, got == want, got + ", not " + want);
                    return got;
                }
                private static double due(String call, double got, double want) {
                    tell(call, got == want, got + ", not " + want);
                    return got;
                }
                private static float due(String call, float got, float want) {
                    tell(call, got == want, got + ", not " + want);
                    return got;
                }
                private static void dueLine(FortHeralds country, String want) {
                    StringBuilder line = new StringBuilder();
                    for (int index = 0; country.character(index) >= 0; index++) {
                        line.append((char) country.character(index));
                    }
                    tell("the line", line.toString().equals(want), line + ", not " + want);
                }
                private static void tell(String call, boolean isAsDue, String answers) {
                    if (!isAsDue) {
                        wrong++;
                        System.out.println(call + " of README.md answers " + answers);
                    }
                }
                public static void main(String[] args) {
            EXAMPLES
                    System.exit(wrong == 0 ? 0 : 1);
                }
            }
            """;

    private final Check check = new Check();
    private final List<String> readme;
    private final Path place;

    private ReadmeTest() throws IOException {
        readme = Files.readAllLines(README);
        place = Files.createTempDirectory("readme");
    }

    public static void main(String[] args) throws IOException, InterruptedException {
        ReadmeTest test = new ReadmeTest();
        try {
            test.theExamples();
            test.theCallsOfTheFace();
            test.theCodes();
            test.theTests();
            test.theCommands();
        } finally {
            test.leave();
        }
        test.check.end();
    }

    private void leave() throws IOException {
        try (Stream<Path> all = Files.walk(place)) {
            all.sorted((one, other) -> other.compareTo(one)).map(Path::toFile).forEach(File::delete);
        }
    }

    /** The lines of all blocks of Java, which are one program together. */
    private List<String> exampleLines() {
        List<String> lines = new ArrayList<>();
        boolean isInside = false;
        for (String line : readme) {
            if (line.startsWith("```")) {
                isInside = line.equals("```java");
            } else if (isInside) {
                lines.add(line);
            }
        }
        return lines;
    }

    private void theExamples() throws IOException, InterruptedException {
        StringBuilder program = new StringBuilder();
        int answers = 0;
        for (String line : exampleLines()) {
            Matcher matcher = EXAMPLE.matcher(line);
            if (matcher.matches()) {
                answers++;
                appendExample(program, matcher);
            } else {
                check.due("without an answer to compare: " + line, line.contains("//") ? 1 : 0, 0);
                program.append(line).append('\n');
            }
        }
        check.due("answers were found: " + answers, answers > 40 ? 1 : 0, 1);
        Path source = place.resolve("Examples.java");
        Files.writeString(source, FRAME.replace("EXAMPLES", program.toString()));
        int compiled = shell("javac -d " + place + " src/main/java/FortHeralds.java " + source);
        check.due("the examples compile", compiled, 0);
        check.due("the examples answer so", shell("java -cp " + place + " Examples"), 0);
    }

    private static void appendExample(StringBuilder program, Matcher example) {
        String beginning = example.group(1) == null ? "" : example.group(1);
        String call = example.group(2);
        program.append(beginning).append("due(\"").append(call).append("\", ").append(call).append(", ")
                .append(example.group(3).trim()).append(");\n");
        Matcher line = LINE_SAID.matcher(example.group(4) == null ? "" : example.group(4));
        if (line.find()) {
            program.append("dueLine(country, ").append(line.group(1)).append(");\n");
        }
    }

    /** The examples are one country, which is used for at most 512 calls. */
    private void theCallsOfTheFace() {
        String all = String.join("\n", readme);
        int calls = all.split("country\\.", -1).length - 1 + "fort;road c-d 12;open ccut a-x".length();
        check.due("calls: " + calls, calls < 512 ? 1 : 0, 1);
        check.due("it says so", all.contains("at most 512 calls") ? 1 : 0, 1);
    }

    private void theCodes() {
        StringBuilder codes = new StringBuilder();
        for (String line : readme) {
            Matcher matcher = CODE_SAID.matcher(line);
            if (matcher.find()) {
                codes.append(matcher.group(1)).append(' ').append(matcher.group(2)).append(' ');
            }
        }
        String due = "NONE " + FortHeralds.NONE + " BAD " + FortHeralds.BAD + " FULL " + FortHeralds.FULL
                + " REFUSED " + FortHeralds.REFUSED + " NOTHING " + FortHeralds.NOTHING + " ";
        check.dueText("the codes of README.md", codes.toString(), due);
    }

    /** README.md names each test that there is, and no other. */
    private void theTests() throws IOException {
        Set<String> named = new TreeSet<>();
        for (String line : readme) {
            Matcher matcher = Pattern.compile("`(\\w+Test)`").matcher(line);
            while (matcher.find()) {
                named.add(matcher.group(1));
            }
        }
        Set<String> there = new TreeSet<>();
        try (Stream<Path> files = Files.list(TESTS)) {
            files.map(file -> file.getFileName().toString()).filter(name -> name.endsWith("Test.java"))
                    .forEach(name -> there.add(name.substring(0, name.length() - ".java".length())));
        }
        check.dueText("the tests of README.md", named.toString(), there.toString());
    }

    /** All commands but .ci/run, which runs this test, are carried out, but in a place of their own. */
    private void theCommands() throws IOException, InterruptedException {
        int commands = 0;
        for (String line : readme) {
            if (line.equals("    .ci/run")) {
                commands++;
                check.due(".ci/run is a script", Files.isExecutable(Path.of(".ci/run")) ? 1 : 0, 1);
            } else if (line.startsWith("    java")) {
                commands++;
                String command = line.trim();
                check.due("names its place: " + command, command.contains(COMMANDS_PLACE) ? 1 : 0, 1);
                String here = command.replace(COMMANDS_PLACE, place.resolve("alone").toString());
                check.due(command, shell(here), 0);
            }
        }
        check.due("commands", commands, 3);
    }

    private static int shell(String command) throws IOException, InterruptedException {
        return new ProcessBuilder("sh", "-c", command).inheritIO().start().waitFor();
    }
}
