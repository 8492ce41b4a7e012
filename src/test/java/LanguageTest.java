import java.lang.reflect.Constructor;
import java.lang.reflect.Field;
import java.lang.reflect.Member;
import java.lang.reflect.Method;
import java.lang.reflect.Modifier;
import java.nio.file.Files;
import java.nio.file.Path;
import java.util.Arrays;
import java.util.List;
import java.util.Set;
import java.util.TreeSet;
import java.util.regex.Matcher;
import java.util.regex.Pattern;

/** The face is the document's and no more, and the file keeps to what can be seen of LANGUAGE.md from outside. */
public final class LanguageTest {
    private static final Check CHECK = new Check("LanguageTest");
    private static final Set<String> FACE = new TreeSet<>(List.of("type/1", "clear/0", "houses/0", "entry/3",
            "strikes/2", "tells/3", "slacks/1", "undo/0", "span/4", "shift/2", "measure/2", "rank/2", "event/2",
            "date/1", "late/2", "line/1", "without/0", "sees/1", "forget/0", "unseen/1", "keep/1", "back/1",
            "count/1"));
    private static final Set<String> CONSTANTS = new TreeSet<>(List.of("BAD", "STATE", "FULL", "NONE", "NO"));

    public static void main(String[] args) throws Exception {
        face();
        classesInside();
        String source = Files.readString(Path.of("src/main/java/YearLines.java"));
        forbiddenWords(withoutCommentsAndTexts(source));
        shortMethods(source);
        CHECK.finish();
    }

    private static void holds(String rule, boolean so) {
        CHECK.due(rule, so ? 1 : 0, 1);
    }

    private static void face() {
        Class<?> c = YearLines.class;
        holds("public and final", Modifier.isPublic(c.getModifiers()) && Modifier.isFinal(c.getModifiers()));
        Set<String> methods = new TreeSet<>();
        for (Method m : c.getDeclaredMethods()) {
            if (Modifier.isPublic(m.getModifiers())) {
                methods.add(m.getName() + "/" + m.getParameterCount());
                holds(m + " answers an int", m.getReturnType() == int.class);
                holds(m + " is of the object", !Modifier.isStatic(m.getModifiers()));
            } else {
                privateAlone(m);
                holds("own name: " + m, FACE.stream().noneMatch(f -> f.startsWith(m.getName() + "/")));
            }
        }
        holds("methods " + methods, methods.equals(FACE));
        Set<String> fields = new TreeSet<>();
        for (Field f : c.getDeclaredFields()) {
            if (Modifier.isPublic(f.getModifiers())) {
                fields.add(f.getName());
            } else {
                privateAlone(f);
            }
        }
        holds("constants " + fields, fields.equals(CONSTANTS));
        Constructor<?>[] made = c.getDeclaredConstructors();
        holds("one constructor", made.length == 1 && made[0].getParameterCount() == 0
                && Modifier.isPublic(made[0].getModifiers()));
    }

    private static void privateAlone(Member m) {
        holds("private: " + m, Modifier.isPrivate(m.getModifiers()));
    }

    private static void classesInside() {
        Class<?>[] inside = YearLines.class.getDeclaredClasses();
        holds("some twelve classes", inside.length <= 12);
        for (Class<?> c : inside) {
            int m = c.getModifiers();
            holds("static: " + c, Modifier.isStatic(m) && !Modifier.isPublic(m) && !Modifier.isProtected(m));
            holds("fields of " + c, fieldsOfObject(c) <= 20);
            fewParameters(c);
            for (Method method : c.getDeclaredMethods()) {
                holds("own name: " + method, FACE.stream().noneMatch(f -> f.startsWith(method.getName() + "/")));
            }
        }
        holds("fields", fieldsOfObject(YearLines.class) <= 20);
        fewParameters(YearLines.class);
    }

    private static void fewParameters(Class<?> c) {
        for (Method method : c.getDeclaredMethods()) {
            holds("seven parameters at most: " + method, method.getParameterCount() <= 7);
        }
    }

    /** A method starts with a line that ends in ") {" and is no statement; it ends with a } as far in as that. */
    private static void shortMethods(String source) {
        Pattern start = Pattern.compile("( ++)(?!if|for|while|switch|else|do|\\})[\\w<>\\[\\] ]+\\([^;]*\\) \\{");
        String[] lines = source.split("\n");
        int found = 0;
        for (int i = 0; i < lines.length; i++) {
            Matcher m = start.matcher(lines[i]);
            if (m.matches()) {
                int end = i;
                while (end < lines.length && !lines[end].equals(m.group(1) + "}")) {
                    end++;
                }
                holds("sixty lines at most: " + lines[i].trim(), end - i < 60);
                found++;
            }
        }
        holds("methods were found", found >= FACE.size());
    }

    private static long fieldsOfObject(Class<?> c) {
        for (Field f : c.getDeclaredFields()) {
            int m = f.getModifiers();
            holds("static is final: " + f, !Modifier.isStatic(m) || Modifier.isFinal(m));
        }
        return Arrays.stream(c.getDeclaredFields()).filter(f -> !Modifier.isStatic(f.getModifiers())).count();
    }

    private static String withoutCommentsAndTexts(String source) {
        return source.replaceAll("(?s)/\\*.*?\\*/", " ").replaceAll("//[^\n]*", " ")
                .replaceAll("'(\\\\.|[^'\\\\])'", "0").replaceAll("\"(\\\\.|[^\"\\\\])*\"", "\"\"");
    }

    private static void forbiddenWords(String source) {
        for (String word : List.of("throw", "throws", "try", "catch", "finally", "synchronized", "assert", "import",
                "package", "protected", "native", "volatile", "transient", "hashCode", "System", "Object", "var",
                "yield", "record", "double", "float")) {
            Matcher m = Pattern.compile("\\b" + word + "\\b").matcher(source);
            holds("no " + word, !m.find());
        }
        holds("no lambda", !source.contains("->"));
        holds("no method reference", !source.contains("::"));
        holds("no divisor", !source.contains("/") && !source.contains("%"));
        Matcher library = Pattern.compile("\\b(Integer|Math|Long)\\.(\\w+)").matcher(source);
        while (library.find()) {
            holds("library: " + library.group(), Set.of("bitCount", "abs", "min", "max").contains(library.group(2)));
        }
        holds("signs 1 to 127", source.chars().allMatch(c -> c < 128));
    }
}
