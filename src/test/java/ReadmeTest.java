import java.io.ByteArrayOutputStream;
import java.io.File;
import java.io.PrintStream;
import java.lang.reflect.Method;
import java.net.URL;
import java.net.URLClassLoader;
import java.nio.file.Files;
import java.nio.file.Path;
import java.util.TreeSet;
import java.util.regex.Matcher;
import java.util.regex.Pattern;
import javax.tools.ToolProvider;

/** README.md: its program prints what it says, its tables name every call with its exceptions, and every test. */
public final class ReadmeTest {
    private static final Checks CHECK = new Checks();
    private static final Pattern CALL = Pattern.compile("(?m)^\\| `(\\w+)\\((.*?)\\)` \\|.*\\| (.*?) \\|$");
    private static final Pattern KIND = Pattern.compile("(?:^|; )(index|argument|state)\\b");
    private static final Pattern TEST = Pattern.compile("(?m)^\\| `(\\w+Test)` \\|");

    public static void main(String[] args) throws Exception {
        String page = Files.readString(Path.of("README.md"));
        CHECK.dueText("what its program prints", printedBy(block(page, "java")), block(page, "text"));
        CHECK.dueText("the calls it names", callsNamed(page).toString(), callsOfTheClass().toString());
        CHECK.dueText("the tests it names", testsNamed(page).toString(), testsThatThereAre().toString());
        CHECK.dueText("how to run the tests", Boolean.toString(page.contains("```sh\n.ci/run\n```")), "true");
        CHECK.end("ReadmeTest");
    }

    private static String block(String page, String kind) {
        Matcher matcher = Pattern.compile("(?s)```" + kind + "\n(.*?)```").matcher(page);
        return matcher.find() ? matcher.group(1) : "no block " + kind;
    }

    private static String printedBy(String program) throws Exception {
        Path folder = Files.createTempDirectory("readme");
        Path source = folder.resolve("Example.java");
        Path compiled = folder.resolve("Example.class");
        try {
            Files.writeString(source, program);
            int code = ToolProvider.getSystemJavaCompiler().run(null, null, null,
                    "-cp", System.getProperty("java.class.path"), "-d", folder.toString(), source.toString());
            return code == 0 ? printedByMain(folder) : "does not compile";
        } finally {
            Files.deleteIfExists(compiled);
            Files.deleteIfExists(source);
            Files.delete(folder);
        }
    }

    private static String printedByMain(Path folder) throws Exception {
        PrintStream before = System.out;
        ByteArrayOutputStream printed = new ByteArrayOutputStream();
        try (URLClassLoader loader = new URLClassLoader(new URL[] {folder.toUri().toURL()})) {
            Method main = loader.loadClass("Example").getMethod("main", String[].class);
            System.setOut(new PrintStream(printed, true));
            main.invoke(null, (Object) new String[0]);
        } finally {
            System.setOut(before);
        }
        return printed.toString().replace(System.lineSeparator(), "\n");
    }

    private static TreeSet<String> callsNamed(String page) {
        TreeSet<String> found = new TreeSet<>();
        Matcher row = CALL.matcher(page);
        while (row.find()) {
            int arguments = row.group(2).isEmpty() ? 0 : row.group(2).split(", ").length;
            StringBuilder text = new StringBuilder(row.group(1) + "/" + arguments);
            Matcher kind = KIND.matcher(row.group(3));
            while (kind.find()) {
                text.append(' ').append(kind.group(1));
            }
            found.add(text.toString());
        }
        return found;
    }

    private static TreeSet<String> callsOfTheClass() {
        TreeSet<String> found = new TreeSet<>();
        for (Method method : Turbineorchard.class.getMethods()) {
            if (method.getDeclaringClass() == Turbineorchard.class) {
                StringBuilder text = new StringBuilder(method.getName() + "/" + method.getParameterCount());
                for (Class<?> type : method.getExceptionTypes()) {
                    text.append(' ').append(kindOf(type));
                }
                found.add(text.toString());
            }
        }
        return found;
    }

    private static String kindOf(Class<?> type) {
        if (type == IndexOutOfBoundsException.class) {
            return "index";
        }
        return type == IllegalArgumentException.class ? "argument" : "state";
    }

    private static TreeSet<String> testsNamed(String page) {
        TreeSet<String> found = new TreeSet<>();
        Matcher row = TEST.matcher(page);
        while (row.find()) {
            found.add(row.group(1));
        }
        return found;
    }

    private static TreeSet<String> testsThatThereAre() {
        TreeSet<String> found = new TreeSet<>();
        String[] names = new File("src/test/java").list((folder, name) -> name.endsWith("Test.java"));
        for (String name : names == null ? new String[0] : names) {
            found.add(name.substring(0, name.length() - ".java".length()));
        }
        return found;
    }
}
