import java.io.IOException;
import java.lang.reflect.Constructor;
import java.lang.reflect.Executable;
import java.lang.reflect.Field;
import java.lang.reflect.Method;
import java.lang.reflect.Modifier;
import java.nio.file.Files;
import java.nio.file.Path;
import java.util.ArrayList;
import java.util.HashSet;
import java.util.List;
import java.util.Set;
import java.util.regex.Matcher;
import java.util.regex.Pattern;

/** Those rules of LANGUAGE.md that can be seen from the file or from outside; each is named by its number. */
public final class LanguageTest {
    private static final Due DUE = new Due();

    /** Words that no rule leaves, or that this class has no need of. */
    private static final String[] LEFT_OUT = {
        "import ", "package ", "throw", "try", "catch", "finally", "synchronized", "assert", "->", "::", "Exact",
        "hashCode", "equals(", "toString", "System.", "random", "Thread", "volatile", "native", "static {"
    };
    private static final Set<String> LIBRARY = Set.of("Math", "Override");
    private static final Set<String> OF_MATH = Set.of("compare", "max", "min", "abs", "floorDiv", "floorMod");
    private static final Set<Class<?>> OF_STATIC_FIELDS =
            Set.of(int.class, long.class, boolean.class, char.class, String.class);

    private static final int MOST_LINES = 60;
    private static final int MOST_PARAMETERS = 7;
    private static final int MOST_CLASSES = 12;
    private static final int MOST_FIELDS = 20;

    public static void main(String[] args) throws IOException {
        String source = Files.readString(Path.of("src/main/java/ColumnHouse.java"));
        String code = source.replaceAll("(?s)/\\*.*?\\*/", "").replaceAll("//.*", "");
        nothingLeftOut(source, code);
        onlyTheLibrary(code);
        nestedClasses();
        for (Class<?> type : types()) {
            fields(type);
            parameters(type);
        }
        linesOfMethods(source);
        DUE.end();
    }

    private static void holds(String rule, boolean holds) {
        DUE.is(rule, holds ? 1 : 0, 1);
    }

    private static List<Class<?>> types() {
        List<Class<?>> types = new ArrayList<>(List.of(ColumnHouse.class.getDeclaredClasses()));
        types.add(ColumnHouse.class);
        return types;
    }

    private static void nothingLeftOut(String source, String code) {
        for (String word : LEFT_OUT) {
            DUE.is("where the code has '" + word + "'", code.indexOf(word), -1);
        }
        holds("rule 4: signs 1 to 127", source.chars().allMatch(sign -> sign >= 1 && sign <= 127));
    }

    /** Names of classes begin with a capital and have small letters too. */
    private static void onlyTheLibrary(String code) {
        Set<String> own = new HashSet<>();
        for (Class<?> type : types()) {
            own.add(type.getSimpleName());
        }
        Matcher names = Pattern.compile("\\b[A-Z]\\w*[a-z]\\w*").matcher(code);
        while (names.find()) {
            holds("rule 4: the class " + names.group(), own.contains(names.group()) || LIBRARY.contains(names.group()));
        }
        Matcher ofMath = Pattern.compile("\\bMath\\.(\\w+)").matcher(code);
        while (ofMath.find()) {
            holds("rule 4: " + ofMath.group(), OF_MATH.contains(ofMath.group(1)));
        }
    }

    private static void nestedClasses() {
        Class<?>[] nested = ColumnHouse.class.getDeclaredClasses();
        holds("rule 11: classes", nested.length < MOST_CLASSES);
        for (Class<?> type : nested) {
            int bits = type.getModifiers();
            holds("rule 1: static " + type.getName(), Modifier.isStatic(bits));
            holds("rule 1: hidden " + type.getName(), !Modifier.isPublic(bits) && !Modifier.isProtected(bits));
            DUE.is("classes in " + type.getName(), type.getDeclaredClasses().length, 0);
        }
    }

    private static void fields(Class<?> type) {
        int own = 0;
        for (Field field : type.getDeclaredFields()) {
            int bits = field.getModifiers();
            if (Modifier.isStatic(bits)) {
                holds("rule 5: final " + field, Modifier.isFinal(bits));
                holds("rule 5: the type of " + field, OF_STATIC_FIELDS.contains(field.getType()));
            } else {
                own++;
            }
        }
        holds("rule 11: fields of " + type.getName(), own <= MOST_FIELDS);
    }

    private static void parameters(Class<?> type) {
        for (Method method : type.getDeclaredMethods()) {
            fewParameters(method);
        }
        for (Constructor<?> constructor : type.getDeclaredConstructors()) {
            fewParameters(constructor);
        }
    }

    private static void fewParameters(Executable executable) {
        holds("rule 11: parameters of " + executable, executable.getParameterCount() <= MOST_PARAMETERS);
    }

    /** A method begins with a line that has its name and a brace, and ends with the next brace that stands as far in. */
    private static void linesOfMethods(String source) {
        Pattern head = Pattern.compile("( +)(?!if|for|while|switch|else|return|do\\b)[\\w ]*\\w+\\([^;]*\\) \\{");
        String[] lines = source.split("\n");
        int methods = 0;
        for (int k = 0; k < lines.length; k++) {
            Matcher matcher = head.matcher(lines[k]);
            if (matcher.matches()) {
                int end = k;
                while (end < lines.length && !lines[end].equals(matcher.group(1) + "}")) {
                    end++;
                }
                methods++;
                holds("rule 11: lines of" + lines[k], end - k < MOST_LINES);
            }
        }
        DUE.is("methods and constructors found", methods, declared());
    }

    /** Those that stand in the file with a body: abstract ones have none, and Cell's constructor is not written. */
    private static int declared() {
        int declared = 0;
        for (Class<?> type : types()) {
            for (Method method : type.getDeclaredMethods()) {
                declared += Modifier.isAbstract(method.getModifiers()) ? 0 : 1;
            }
            for (Constructor<?> constructor : type.getDeclaredConstructors()) {
                declared += constructor.getParameterCount() > 0 || type == ColumnHouse.class ? 1 : 0;
            }
        }
        return declared;
    }
}
