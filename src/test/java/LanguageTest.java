import java.lang.reflect.Constructor;
import java.lang.reflect.Executable;
import java.lang.reflect.Field;
import java.lang.reflect.Method;
import java.lang.reflect.Modifier;
import java.nio.file.Files;
import java.nio.file.Path;
import java.util.ArrayList;
import java.util.Arrays;
import java.util.List;
import java.util.TreeSet;
import java.util.regex.Matcher;
import java.util.regex.Pattern;

/** What of LANGUAGE.md can be seen by reflection and by the words of the source. The rule's number is in each name. */
public final class LanguageTest {
    private static final Checks CHECK = new Checks();

    private static final String[] WORDS = {
        "package", "import", "try", "catch", "finally", "synchronized", "assert", "volatile", "transient", "native",
        "strictfp", "protected", "instanceof", "extends", "equals", "hashCode", "toString", "Object", "System.out",
        "System.err", "Random", "Thread", "->", "::",
    };
    private static final List<String> THROWN = Arrays.asList(
            "IllegalStateException", "IllegalArgumentException", "IndexOutOfBoundsException");
    private static final List<Class<?>> CONSTANTS =
            Arrays.asList(int.class, long.class, boolean.class, char.class, String.class);
    private static final int MOST_LINES = 60;
    private static final int MOST_PARAMETERS = 7;
    private static final int MOST_CLASSES = 12;
    private static final int MOST_FIELDS = 20;

    public static void main(String[] args) throws Exception {
        String source = Files.readString(Path.of("src/main/java/Turbineorchard.java"));
        String code = withoutCommentsAndTexts(source);
        words(code);
        exceptions(code);
        lengthOfMethods(source);
        List<Class<?>> classes = new ArrayList<>(Arrays.asList(Turbineorchard.class.getDeclaredClasses()));
        for (Class<?> inside : classes) {
            modifiersOf(inside);
        }
        classes.add(Turbineorchard.class);
        within("rule 11, classes", classes.size(), MOST_CLASSES);
        for (Class<?> each : classes) {
            fieldsOf(each);
            parametersOf(each);
        }
        CHECK.end("LanguageTest");
    }

    private static void within(String what, int number, int most) {
        CHECK.dueText(what + ": " + number, Boolean.toString(number <= most), "true");
    }

    private static String withoutCommentsAndTexts(String source) {
        return source.replaceAll("(?s)/\\*.*?\\*/", " ").replaceAll("//[^\n]*", " ").replaceAll("\"[^\"\n]*\"", "\"\"");
    }

    private static void words(String code) {
        for (String word : WORDS) {
            boolean isName = Character.isLetter(word.charAt(0));
            Pattern pattern = Pattern.compile(isName ? "\\b" + Pattern.quote(word) + "\\b" : Pattern.quote(word));
            CHECK.dueText("rules 2 to 6, the word " + word, Boolean.toString(pattern.matcher(code).find()), "false");
        }
        Pattern block = Pattern.compile("\\bstatic\\s*\\{");
        CHECK.dueText("rule 5, a static block", Boolean.toString(block.matcher(code).find()), "false");
        CHECK.dueText("rule 10, texts joined by +", Boolean.toString(code.matches("(?s).*(\\+\\s*\"|\"\\s*\\+).*")), "false");
        boolean plain = code.chars().allMatch(sign -> sign < 128);
        CHECK.dueText("rule 4, signs 1 to 127", Boolean.toString(plain), "true");
    }

    private static void exceptions(String code) {
        Matcher thrown = Pattern.compile("\\bthrow\\b([^;]*);").matcher(code);
        while (thrown.find()) {
            Matcher made = Pattern.compile(" new (\\w+)\\((?:\"\")?\\)").matcher(thrown.group(1));
            String kind = made.matches() ? made.group(1) : "not made where it is thrown:" + thrown.group(1);
            CHECK.dueText("rule 6, " + kind, Boolean.toString(THROWN.contains(kind)), "true");
        }
    }

    /** A method begins with its types and its name, and ends with a brace as far in as it began. */
    private static void lengthOfMethods(String source) {
        String[] lines = source.split("\n");
        Pattern head = Pattern.compile("( {4}| {8})(?!return|throw|new)(?:[\\w\\[\\]]+ )*\\w+\\(.*[^;]");
        int found = 0;
        for (int first = 0; first < lines.length; first++) {
            Matcher matcher = head.matcher(lines[first]);
            if (matcher.matches()) {
                int last = first;
                while (last < lines.length && !lines[last].equals(matcher.group(1) + "}")) {
                    last++;
                }
                found++;
                within("rule 11, lines of" + lines[first], last - first + 1, MOST_LINES);
            }
        }
        CHECK.dueText("methods found: " + found, Boolean.toString(found >= ofTheFace()), "true");
    }

    private static int ofTheFace() {
        return Turbineorchard.class.getDeclaredMethods().length;
    }

    private static void modifiersOf(Class<?> inside) {
        int modifiers = inside.getModifiers();
        boolean hidden = !Modifier.isPublic(modifiers) && !Modifier.isProtected(modifiers);
        CHECK.dueText("rule 1, " + inside.getSimpleName() + " hidden", Boolean.toString(hidden), "true");
        CHECK.dueText("rule 1, " + inside.getSimpleName() + " static",
                Boolean.toString(Modifier.isStatic(modifiers)), "true");
    }

    private static void fieldsOf(Class<?> each) {
        int own = 0;
        for (Field field : each.getDeclaredFields()) {
            String name = each.getSimpleName() + "." + field.getName();
            boolean fine;
            if (Modifier.isStatic(field.getModifiers())) {
                fine = Modifier.isFinal(field.getModifiers()) && CONSTANTS.contains(field.getType());
            } else {
                own++;
                fine = isAllowed(field.getType());
            }
            CHECK.dueText("rules 3 and 5, " + name, Boolean.toString(fine), "true");
        }
        within("rule 11, fields of " + each.getSimpleName(), own, MOST_FIELDS);
    }

    private static boolean isAllowed(Class<?> type) {
        if (type.isArray()) {
            return isAllowed(type.getComponentType());
        }
        return type.isPrimitive() || type == String.class || type.getDeclaringClass() == Turbineorchard.class;
    }

    private static void parametersOf(Class<?> each) {
        TreeSet<String> tooMany = new TreeSet<>();
        List<Executable> all = new ArrayList<>(Arrays.asList(each.getDeclaredMethods()));
        for (Constructor<?> constructor : each.getDeclaredConstructors()) {
            all.add(constructor);
        }
        for (Executable executable : all) {
            if (executable.getParameterCount() > MOST_PARAMETERS) {
                tooMany.add(executable.getName());
            }
            if (executable instanceof Method && !isAllowed(((Method) executable).getReturnType())) {
                tooMany.add(executable.getName() + " answers another type");
            }
        }
        CHECK.dueText("rule 11, parameters of " + each.getSimpleName(), tooMany.toString(), "[]");
    }
}
