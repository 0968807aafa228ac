import java.io.File;
import java.io.IOException;
import java.net.URL;
import java.net.URLClassLoader;
import java.nio.file.Files;
import java.nio.file.Path;
import java.util.ArrayList;
import java.util.List;
import java.util.regex.Matcher;
import java.util.regex.Pattern;
import javax.tools.ToolProvider;

/** What README.md says holds: its examples answer so, and the files it names are there. Runs from the project's folder. */
public final class ReadmeTest {
    private ReadmeTest() {
    }

    public static void main(String[] args) throws IOException, ReflectiveOperationException {
        String page = Files.readString(Path.of("README.md"));
        examples(page);
        names(page);
        Check.finish();
    }

    /** Each example is compiled as it stands; behind each "int name = ..; // N" the name is to be N. */
    private static void examples(String page) throws IOException, ReflectiveOperationException {
        Check.promise("README.md's examples");
        Matcher block = Pattern.compile("(?s)```java\\n(.*?)```").matcher(page);
        int found = 0;
        int told = 0;
        while (block.find()) {
            List<String> names = new ArrayList<>();
            List<Long> due = new ArrayList<>();
            Matcher line = Pattern.compile("(?m)^int (\\w+) = .*; +// (-?\\d+).*$").matcher(block.group(1));
            while (line.find()) {
                names.add(line.group(1));
                due.add(Long.parseLong(line.group(2)));
            }
            long[] got = run("Example" + found, block.group(1), names);
            for (int i = 0; i < names.size(); i++) {
                Check.due("example " + found + ", " + names.get(i), got[i], due.get(i));
            }
            found++;
            told += names.size();
        }
        Check.due("how many", found, 2);
        Check.due("how many answers they tell", told, 21);
    }

    private static long[] run(String name, String example, List<String> answers) throws IOException, ReflectiveOperationException {
        String code = "public final class " + name + " {\n    public static long[] answers() {\n" + example
            + "return new long[] {" + String.join(", ", answers) + "};\n    }\n}\n";
        Path folder = Files.createTempDirectory("readme");
        Path file = folder.resolve(name + ".java");
        Files.writeString(file, code);
        try {
            String classes = System.getProperty("java.class.path");
            int failed = ToolProvider.getSystemJavaCompiler().run(null, null, null, "-cp", classes, "-d", folder.toString(), file.toString());
            Check.due(name + " does not compile", failed, 0);
            if (failed != 0) {
                return new long[answers.size()];
            }
            try (URLClassLoader loader = new URLClassLoader(new URL[] {folder.toUri().toURL()}, YearAgo.class.getClassLoader())) {
                return (long[]) loader.loadClass(name).getMethod("answers").invoke(null);
            }
        } finally {
            for (File made : folder.toFile().listFiles()) {
                Files.delete(made.toPath());
            }
            Files.delete(folder);
        }
    }

    private static void names(String page) throws IOException {
        Check.promise("README.md's names");
        for (String path : List.of("src/main/java/YearAgo.java", ".ci/run", "../shared/DOC.md", "../shared/LANGUAGE.md", "../shared/tests")) {
            Check.due("it does not name " + path, page.contains(path) ? 0 : 1, 0);
            Check.due(path + " is not there", new File(path).exists() ? 0 : 1, 0);
        }
        Matcher named = Pattern.compile("\\b\\w+Test\\b").matcher(page);
        while (named.find()) {
            Check.due(named.group() + " is not there", new File("src/test/java/" + named.group() + ".java").exists() ? 0 : 1, 0);
        }
        for (String file : new File("src/test/java").list()) {
            String name = file.replace(".java", "");
            Check.due("it does not name " + name, !name.endsWith("Test") || page.contains("`" + name + "`") ? 0 : 1, 0);
        }
        String program = Files.readString(Path.of("src/main/java/YearAgo.java"));
        for (String part : List.of("Tape", "Tokens", "Reader", "Market", "Things", "Sellers", "Buyers", "Year", "SellerAlone", "BuyerAlone", "Row",
            "formOf", "lowestOf", "highestOf", "yearKnown")) {
            Check.due("it does not name " + part, page.contains("`" + part + "`") ? 0 : 1, 0);
            Check.due(part + " is not there", program.contains(part) ? 0 : 1, 0);
        }
    }
}
