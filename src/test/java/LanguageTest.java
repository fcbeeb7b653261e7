import java.io.IOException;
import java.lang.reflect.Constructor;
import java.lang.reflect.Field;
import java.lang.reflect.Method;
import java.lang.reflect.Modifier;
import java.nio.file.Files;
import java.nio.file.Path;
import java.util.ArrayList;
import java.util.List;
import java.util.Set;
import java.util.TreeSet;
import java.util.regex.Matcher;
import java.util.regex.Pattern;

/** The face of the document, and those rules of LANGUAGE.md that can be seen from outside. */
public final class LanguageTest {
    public static void main(String[] args) throws IOException {
        String source = Files.readString(Path.of(args.length > 0 ? args[0] : "src/main/java/Simplespan.java"));
        face(Files.readString(Path.of("../shared/DOC.md")));
        members();
        insides();
        words(source);
        methods(source);
        Check.end();
    }

    /** The lines of the document's face, and what the class has. */
    private static void face(String document) {
        Set<String> due = new TreeSet<>();
        int begin = document.indexOf("```java");
        for (String line : document.substring(begin, document.indexOf("```", begin + 3)).split("\n")) {
            if (line.startsWith("    public ") && !line.contains("Simplespan()")) {
                due.add(line.trim().replaceAll("(int|boolean) [a-zA-Z]+([,)])", "$1$2"));
            }
        }
        Set<String> got = new TreeSet<>();
        for (Method method : Simplespan.class.getDeclaredMethods()) {
            if (Modifier.isPublic(method.getModifiers())) {
                got.add(told(method));
            }
        }
        Check.same("the number of methods", "47", String.valueOf(due.size()));
        Check.same("the face", due.toString(), got.toString());
    }

    private static String told(Method method) {
        List<String> parameters = new ArrayList<>();
        for (Class<?> type : method.getParameterTypes()) {
            parameters.add(type.getSimpleName());
        }
        List<String> thrown = new ArrayList<>();
        for (Class<?> type : method.getExceptionTypes()) {
            thrown.add(type.getSimpleName());
        }
        return "public " + method.getReturnType().getSimpleName() + " " + method.getName() + "("
            + String.join(", ", parameters) + ")" + (thrown.isEmpty() ? "" : " throws " + String.join(", ", thrown))
            + ";";
    }

    private static void members() {
        Class<?> face = Simplespan.class;
        Check.same("public final", "public final", Modifier.toString(face.getModifiers()));
        Constructor<?>[] constructors = face.getDeclaredConstructors();
        Check.same("one constructor", "1", String.valueOf(constructors.length));
        Check.same("it is public", "public", Modifier.toString(constructors[0].getModifiers()));
        for (Method method : face.getDeclaredMethods()) {
            int modifiers = method.getModifiers();
            Check.same(method.getName() + " is public or private", "true",
                String.valueOf(Modifier.isPublic(modifiers) || Modifier.isPrivate(modifiers)));
        }
        for (Field field : face.getDeclaredFields()) {
            Check.same(field.getName() + " is private", "true", String.valueOf(Modifier.isPrivate(field.getModifiers())));
        }
    }

    private static void insides() {
        Set<String> publicNames = new TreeSet<>();
        for (Method method : Simplespan.class.getDeclaredMethods()) {
            if (Modifier.isPublic(method.getModifiers())) {
                publicNames.add(method.getName());
            }
        }
        Class<?>[] inside = Simplespan.class.getDeclaredClasses();
        Check.same("at most twelve classes", "true", String.valueOf(inside.length + 1 <= 12));
        List<Class<?>> all = new ArrayList<>(List.of(inside));
        all.add(Simplespan.class);
        for (Class<?> type : all) {
            int fields = 0;
            for (Field field : type.getDeclaredFields()) {
                boolean isStatic = Modifier.isStatic(field.getModifiers());
                Check.same(field + " is final if static", "true",
                    String.valueOf(!isStatic || Modifier.isFinal(field.getModifiers())));
                fields += isStatic ? 0 : 1;
            }
            Check.same(type + " has few fields", "true", String.valueOf(fields <= 20));
            for (Method method : type.getDeclaredMethods()) {
                boolean isFace = type == Simplespan.class && Modifier.isPublic(method.getModifiers());
                Check.same(method + " has a name of its own", "true",
                    String.valueOf(isFace || !publicNames.contains(method.getName())));
                Check.same(method + " has few parameters", "true", String.valueOf(method.getParameterCount() <= 7));
            }
        }
        for (Class<?> type : inside) {
            Check.same(type + " is static and private", "true",
                String.valueOf(Modifier.isStatic(type.getModifiers()) && Modifier.isPrivate(type.getModifiers())));
        }
    }

    private static void words(String source) {
        String code = source.replaceAll("(?s)/\\*.*?\\*/", "").replaceAll("//[^\n]*", "");
        for (char sign : source.toCharArray()) {
            if (sign > 126) {
                Check.same("a sign", "1 to 126", String.valueOf((int) sign));
            }
        }
        for (String word : new String[] {"->", "::", "synchronized", "assert", "finally", "catch", "instanceof",
            "getMessage", "package ", "protected", "Exact", "System.out", "Thread", "Random", "currentTime",
            "nanoTime", "volatile", "static {", "toString", "hashCode", ".equals", "String "}) {
            Check.same("the word " + word, "false", String.valueOf(code.contains(word)));
        }
        Matcher imports = Pattern.compile("import ([^;]*);").matcher(code);
        while (imports.find()) {
            Check.same("import", "java.util.NoSuchElementException", imports.group(1));
        }
        Matcher thrown = Pattern.compile("throw ([^;]*);").matcher(code);
        while (thrown.find()) {
            Check.same(thrown.group(), "true",
                String.valueOf(thrown.group(1).matches("new [A-Za-z]+Exception\\(\"[^\"]*\"\\)")));
        }
        Matcher called = Pattern.compile("\\b(Math|System|Integer|Long|Arrays)\\.([A-Za-z]+)").matcher(code);
        Set<String> allowed = Set.of("Math.max", "Math.min", "System.arraycopy", "Integer.bitCount");
        while (called.find()) {
            Check.same(called.group() + " is in the library that is left", "true",
                String.valueOf(allowed.contains(called.group())));
        }
    }

    /** Methods stay below some sixty lines. */
    private static void methods(String source) {
        int begun = 0;
        int number = 0;
        for (String line : source.split("\n")) {
            number++;
            if (line.matches("(    |        )[a-zA-Z].*\\) ?\\{") || line.matches(" +throws .*\\{")) {
                begun = number;
            }
            if (line.matches("(    |        )\\}") && begun > 0) {
                Check.same("lines of the method at " + begun, "true", String.valueOf(number - begun < 60));
                begun = 0;
            }
        }
    }
}
