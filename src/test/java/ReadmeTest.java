import java.io.ByteArrayOutputStream;
import java.io.IOException;
import java.io.PrintStream;
import java.net.URL;
import java.net.URLClassLoader;
import java.nio.file.Files;
import java.nio.file.Path;
import java.util.ArrayList;
import java.util.List;
import java.util.Set;
import java.util.TreeSet;
import java.util.regex.Matcher;
import java.util.regex.Pattern;
import java.util.stream.Stream;
import javax.tools.JavaCompiler;
import javax.tools.ToolProvider;

/** Each program that README.md shows prints, as it stands there, what is told behind its calls; its table names every test. */
public final class ReadmeTest {
    private static final Check check = new Check("ReadmeTest");
    private static final Pattern PROGRAM = Pattern.compile("(?ms)^```java\n(.*?)^```$");
    private static final Pattern PROGRAM_NAME = Pattern.compile("\\bclass (\\w+)");
    private static final Pattern TOLD = Pattern.compile("// (-?\\d+): ");
    private static final Pattern TEST_NAME = Pattern.compile("\\b\\w+Test\\b");

    public static void main(String[] args) throws Exception {
        String readme = Files.readString(Path.of("README.md"));
        int programs = 0;
        Matcher program = PROGRAM.matcher(readme);
        while (program.find()) {
            programs++;
            holds(program.group(1));
        }
        check.is("two programs or more are shown, not " + programs, programs >= 2);
        allTestsAreTold(readme);
        check.end();
    }

    private static void holds(String program) throws Exception {
        Matcher name = PROGRAM_NAME.matcher(program);
        boolean isNamed = name.find();
        check.is("a program without a class:\n" + program, isNamed);
        if (!isNamed) return;
        List<String> calls = new ArrayList<>();
        List<String> told = new ArrayList<>();
        for (String line : program.split("\n")) {
            if (!line.contains("System.out.println(")) continue;
            Matcher number = TOLD.matcher(line);
            boolean isTold = number.find();
            check.is("no answer is told behind " + line.trim(), isTold);
            calls.add(line.trim());
            told.add(isTold ? number.group(1) : "nothing");
        }
        List<String> printed = printedBy(name.group(1), program);
        check.due(name.group(1) + " prints so many lines:", printed.size(), told.size());
        for (int i = 0; i < Math.min(printed.size(), told.size()); i++) {
            check.is(calls.get(i) + " printed " + printed.get(i), printed.get(i).equals(told.get(i)));
        }
    }

    private static List<String> printedBy(String name, String program) throws Exception {
        JavaCompiler compiler = ToolProvider.getSystemJavaCompiler();
        Path place = Files.createTempDirectory("readme");
        PrintStream out = System.out;
        ByteArrayOutputStream printed = new ByteArrayOutputStream();
        try {
            Path source = Files.writeString(place.resolve(name + ".java"), program);
            String classes = System.getProperty("java.class.path");
            int code = compiler.run(null, null, null, "-cp", classes, "-d", place.toString(), source.toString());
            check.is(name + " compiles", code == 0);
            if (code != 0) return List.of();
            try (URLClassLoader loader = new URLClassLoader(new URL[] {place.toUri().toURL()})) {
                System.setOut(new PrintStream(printed, true));
                loader.loadClass(name).getMethod("main", String[].class).invoke(null, (Object) new String[0]);
            }
        } finally {
            System.setOut(out);
            removeAllOf(place);
        }
        return printed.toString().lines().toList();
    }

    private static void removeAllOf(Path place) throws IOException {
        try (Stream<Path> files = Files.list(place)) {
            for (Path file : files.toList()) Files.delete(file);
        }
        Files.delete(place);
    }

    /** The first cells of the table, not the text around it, which names a test to show how one is run. */
    private static void allTestsAreTold(String readme) throws IOException {
        Set<String> told = new TreeSet<>();
        for (String line : readme.split("\n")) {
            if (!line.startsWith("| ")) continue;
            Matcher test = TEST_NAME.matcher(line.split("\\|")[1]);
            while (test.find()) told.add(test.group());
        }
        Set<String> there = new TreeSet<>();
        try (Stream<Path> files = Files.list(Path.of("src/test/java"))) {
            for (Path file : files.toList()) {
                String name = file.getFileName().toString();
                if (name.endsWith("Test.java")) there.add(name.substring(0, name.length() - 5));
            }
        }
        check.is("the table names " + told + ", there are " + there, told.equals(there));
    }
}
