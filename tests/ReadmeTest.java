import java.io.File;
import java.nio.charset.StandardCharsets;
import java.nio.file.Files;
import java.nio.file.Path;
import java.util.ArrayList;
import java.util.List;
import java.util.regex.Matcher;
import java.util.regex.Pattern;

/** What README.md shows: each call of its example, by reflection, answers what stands behind it. */
public final class ReadmeTest {
    private static final Pattern CALL = Pattern.compile("^hill\\.(\\w+)\\(([^)]*)\\); *// (true|false|-?\\d+)\\b.*$");

    private static final Due due = new Due();

    public static void main(String[] args) throws Exception {
        String readme = Files.readString(Path.of("README.md"), StandardCharsets.UTF_8);
        List<String> blocks = blocks(readme);
        due.is("README shows an example and how a String is told", 2, blocks.size());
        if (blocks.size() == 2) {
            example(blocks.get(0).split("\n"));
            tell(blocks.get(1));
        }
        due.is("README tells how tests are run", true, readme.contains("    .ci/run\n"));
        files(readme);
        due.end("ReadmeTest");
    }

    private static List<String> blocks(String readme) {
        List<String> blocks = new ArrayList<>();
        Matcher m = Pattern.compile("```java\n(.*?)```", Pattern.DOTALL).matcher(readme);
        while (m.find()) {
            blocks.add(m.group(1));
        }
        return blocks;
    }

    private static void example(String[] lines) throws Exception {
        SinglesUp hill = new SinglesUp();
        due.is("README begins with a new object", true, lines[0].equals("SinglesUp hill = new SinglesUp();"));
        for (int i = 1; i < lines.length; i++) {
            if (lines[i].isEmpty() || lines[i].startsWith("//")) {
                continue;
            }
            Matcher m = CALL.matcher(lines[i]);
            boolean told = m.matches();
            due.is("README can be read: " + lines[i], true, told);
            if (told) {
                due.is("README: " + lines[i], number(m.group(3)), answer(hill, m.group(1), m.group(2)));
            }
        }
    }

    private static long answer(SinglesUp hill, String name, String arguments) throws Exception {
        String[] words = arguments.isEmpty() ? new String[0] : arguments.split(", ");
        Class<?>[] types = new Class<?>[words.length];
        Object[] values = new Object[words.length];
        for (int i = 0; i < words.length; i++) {
            boolean truth = words[i].equals("true") || words[i].equals("false");
            types[i] = truth ? boolean.class : int.class;
            values[i] = truth ? (Object) words[i].equals("true") : (Object) (int) number(words[i]);
        }
        return number(SinglesUp.class.getMethod(name, types).invoke(hill, values).toString());
    }

    private static long number(String word) {
        return word.equals("true") ? 1 : word.equals("false") ? 0 : Long.decode(word);
    }

    /** The function that README shows tells texts of any length, and nothing is left on the TAPE. */
    private static void tell(String shown) throws Exception {
        String program = """
            public final class Shown {
                %s
                public static void main(String[] args) {
                    SinglesUp hill = new SinglesUp();
                    for (int n = 0; n <= 41; n++) {
                        String blanks = " ".repeat(n);
                        System.out.print(tell(hill, n % 4, blanks + "take 1;") + " " + tell(hill, 4, blanks + "line")
                            + " " + hill.fault(1) + " " + hill.end(1) + "; ");
                    }
                }
            }
            """.replace("%s", shown);
        StringBuilder want = new StringBuilder();
        for (int n = 0; n <= 41; n++) {
            want.append("1 -1 ").append(n + 4).append(" false; ");
        }
        Path folder = Files.createTempDirectory("readme");
        Path file = folder.resolve("Shown.java");
        Files.writeString(file, program);
        String path = System.getProperty("java.class.path");
        run("javac", "-cp", path, "-d", folder.toString(), file.toString());
        String out = run("java", "-cp", path + File.pathSeparator + folder, "Shown");
        due.is("README's function, which tells: " + out, true, out.equals(want.toString()));
        for (String name : new String[] {"Shown.java", "Shown.class", ""}) {
            Files.deleteIfExists(folder.resolve(name));
        }
    }

    private static String run(String... words) throws Exception {
        Process process = new ProcessBuilder(words).redirectErrorStream(true).start();
        String out = new String(process.getInputStream().readAllBytes(), StandardCharsets.UTF_8);
        due.is("README's function: " + words[0] + " " + out, 0, process.waitFor());
        return out;
    }

    /** Each test there is stands in README's table, and each that stands there is. */
    private static void files(String readme) throws Exception {
        try (var files = Files.list(Path.of("tests"))) {
            files.map(f -> f.getFileName().toString()).filter(f -> f.endsWith("Test.java")).sorted().forEach(f ->
                due.is("README names " + f, true, readme.contains("| `" + f.replace(".java", "") + "` |")));
        }
        Matcher m = Pattern.compile("`([\\w./]+)`").matcher(readme);
        while (m.find()) {
            String name = m.group(1);
            if (name.matches("(src|tests|\\.ci)/.*")) {
                boolean there = Files.exists(Path.of(name)) || Files.exists(Path.of(name + ".java"));
                due.is("README names what is there: " + name, true, there);
            }
        }
    }
}
