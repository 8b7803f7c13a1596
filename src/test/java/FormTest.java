import java.io.IOException;
import java.lang.reflect.Constructor;
import java.lang.reflect.Field;
import java.lang.reflect.Method;
import java.lang.reflect.Modifier;
import java.nio.file.Files;
import java.nio.file.Path;
import java.util.ArrayList;
import java.util.List;
import java.util.Set;
import java.util.TreeSet;
import java.util.regex.Matcher;
import java.util.regex.Pattern;

/** The public face, and what of ../shared/LANGUAGE.md can be seen by reflection or in the source. */
public final class FormTest {
    private static final String SOURCE = "src/main/java/GuineaHours.java";
    private static final Path DOCUMENT = Path.of("../shared/DOC.md");
    private static int wrong = 0;

    public static void main(String[] args) throws IOException {
        String source = withoutComments(Files.readString(Path.of(SOURCE)));
        faceIsTheDocuments();
        nothingElseIsSeen();
        noPrivateMethodHasAPublicName();
        nestedClasses();
        staticFields(GuineaHours.class);
        for (Class<?> c : GuineaHours.class.getDeclaredClasses()) {
            staticFields(c);
        }
        forbiddenWords(source);
        methodsAreShort(source);
        System.out.println(wrong == 0 ? "the form is as due" : wrong + " faults of form");
        if (wrong != 0) {
            System.exit(1);
        }
    }

    private static void check(boolean fine, String what) {
        if (!fine) {
            wrong++;
            System.out.println(what);
        }
    }

    /** The face of the document, a line a method, as "int row(int, int)". */
    private static void faceIsTheDocuments() throws IOException {
        Set<String> due = new TreeSet<>();
        Matcher m = Pattern.compile("(?m)^    public (int|long) (\\w+)\\(([^)]*)\\);").matcher(Files.readString(DOCUMENT));
        while (m.find()) {
            due.add(m.group(1) + " " + m.group(2) + "(" + m.group(3).replaceAll("(int|long) \\w+", "$1") + ")");
        }
        Set<String> there = new TreeSet<>();
        for (Method method : GuineaHours.class.getDeclaredMethods()) {
            if (Modifier.isPublic(method.getModifiers())) {
                List<String> types = new ArrayList<>();
                for (Class<?> type : method.getParameterTypes()) {
                    types.add(type.getSimpleName());
                }
                there.add(method.getReturnType() + " " + method.getName() + "(" + String.join(", ", types) + ")");
            }
        }
        check(due.size() == 52, "the document's face has " + due.size() + " methods");
        check(due.equals(there), "face: due " + due + ", there " + there);
        check(Modifier.isFinal(GuineaHours.class.getModifiers()), "the class is not final");
    }

    private static void nothingElseIsSeen() {
        Set<String> constants = Set.of("BAD", "FULL", "FINDING", "STATE", "SPENT", "NONE");
        for (Field f : GuineaHours.class.getDeclaredFields()) {
            boolean isPublic = Modifier.isPublic(f.getModifiers());
            check(isPublic == constants.contains(f.getName()), "field " + f);
            check(isPublic || Modifier.isPrivate(f.getModifiers()), "field " + f);
        }
        for (Method m : GuineaHours.class.getDeclaredMethods()) {
            check(Modifier.isPublic(m.getModifiers()) || Modifier.isPrivate(m.getModifiers()), "method " + m);
        }
        for (Constructor<?> c : GuineaHours.class.getDeclaredConstructors()) {
            check(Modifier.isPublic(c.getModifiers()) && c.getParameterCount() == 0, "constructor " + c);
        }
    }

    private static void noPrivateMethodHasAPublicName() {
        Set<String> names = new TreeSet<>();
        for (Method m : GuineaHours.class.getDeclaredMethods()) {
            if (Modifier.isPublic(m.getModifiers())) {
                check(names.add(m.getName()), "twice: " + m);
            }
        }
        List<Class<?>> classes = new ArrayList<>(List.of(GuineaHours.class.getDeclaredClasses()));
        classes.add(GuineaHours.class);
        for (Class<?> c : classes) {
            for (Method m : c.getDeclaredMethods()) {
                check(Modifier.isPublic(m.getModifiers()) || !names.contains(m.getName()), "a public name: " + m);
                check(m.getParameterCount() <= 7, "many parameters: " + m);
            }
        }
    }

    private static void nestedClasses() {
        Class<?>[] classes = GuineaHours.class.getDeclaredClasses();
        check(classes.length + 1 <= 12, classes.length + " classes inside");
        for (Class<?> c : classes) {
            int flags = c.getModifiers();
            check(Modifier.isStatic(flags), c + " is not static");
            check(!Modifier.isPublic(flags) && !Modifier.isProtected(flags), c + " is public or protected");
            check(c.getDeclaredClasses().length == 0, c + " has classes inside");
            check(countFields(c) <= 20, c + " has many fields");
        }
        check(countFields(GuineaHours.class) <= 20, "the class has many fields");
    }

    private static int countFields(Class<?> c) {
        int sum = 0;
        for (Field f : c.getDeclaredFields()) {
            sum += Modifier.isStatic(f.getModifiers()) ? 0 : 1;
        }
        return sum;
    }

    private static void staticFields(Class<?> c) {
        Set<Class<?>> types = Set.of(int.class, long.class, boolean.class, char.class, String.class, int[].class,
            long[].class, char[].class, byte[].class);
        for (Field f : c.getDeclaredFields()) {
            if (Modifier.isStatic(f.getModifiers())) {
                check(Modifier.isFinal(f.getModifiers()) && types.contains(f.getType()), "static field " + f);
            }
        }
    }

    private static String withoutComments(String source) {
        return source.replaceAll("(?s)/\\*.*?\\*/", "").replaceAll("//[^\n]*", "");
    }

    private static void forbiddenWords(String source) {
        String[] words = {"throw", "throws", "try", "catch", "finally", "synchronized", "assert", "protected", "double",
            "float", "Object", "Random", "Thread", "System\\.(?!arraycopy)\\w+", "\\w+Exact", "hashCode", "equals",
            "toString", "package", "Integer\\.(?!bitCount)\\w+", "Math\\.(?!max|min)\\w+", "var"};
        for (String word : words) {
            check(!Pattern.compile("\\b" + word + "\\b").matcher(source).find(), "in the source: " + word);
        }
        check(!source.contains("->") && !source.contains("::"), "a lambda or a method reference");
        check(!source.contains("\""), "a text");
        for (String line : source.split("\n")) {
            check(!line.startsWith("import ") || line.equals("import java.util.Arrays;"), line);
        }
        for (char sign : source.toCharArray()) {
            check(sign == '\n' || sign >= 32 && sign < 127, "sign " + (int) sign);
        }
    }

    /** A method goes from a line that opens it to the brace below its first letter. */
    private static void methodsAreShort(String source) {
        String[] lines = source.split("\n");
        for (int i = 0; i < lines.length; i++) {
            String indent = lines[i].replaceAll("\\S.*", "");
            boolean opens = lines[i].matches(" {4}( {4})?\\S.*\\) \\{") && !lines[i].matches(" *(if|for|while|switch) .*");
            for (int k = i; opens && k < lines.length; k++) {
                if (lines[k].equals(indent + "}")) {
                    check(k - i <= 60, "long: " + lines[i].trim());
                    break;
                }
            }
        }
    }
}
