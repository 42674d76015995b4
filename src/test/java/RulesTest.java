import java.io.IOException;
import java.lang.reflect.Field;
import java.lang.reflect.Method;
import java.lang.reflect.Modifier;
import java.nio.file.Files;
import java.nio.file.Path;
import java.util.ArrayList;
import java.util.Arrays;
import java.util.List;
import java.util.Set;
import java.util.TreeSet;
import java.util.regex.Matcher;
import java.util.regex.Pattern;

/** The public face as the document writes it, and what LANGUAGE.md rules out as far as a text search tells. */
public final class RulesTest {
    private static final Check CHECK = new Check("RulesTest");

    private static String simple(Class<?>[] types) {
        StringBuilder all = new StringBuilder();
        for (Class<?> type : types) {
            all.append(all.length() == 0 ? "" : ", ").append(type.getSimpleName());
        }
        return all.toString();
    }

    private static Set<String> facesOfClass() {
        Set<String> faces = new TreeSet<>();
        for (Method method : SnowbolFold.class.getDeclaredMethods()) {
            if (!Modifier.isPrivate(method.getModifiers())) {
                String thrown = simple(method.getExceptionTypes());
                faces.add(Modifier.toString(method.getModifiers()) + " " + method.getReturnType().getSimpleName()
                        + " " + method.getName() + "(" + simple(method.getParameterTypes()) + ")"
                        + (thrown.isEmpty() ? "" : " throws " + thrown));
            }
        }
        return faces;
    }

    private static Set<String> facesOfDocument() throws IOException {
        Set<String> faces = new TreeSet<>();
        String text = Files.readString(Path.of("../shared/DOC.md"));
        String code = text.substring(text.indexOf("```java"), text.lastIndexOf("```"));
        Matcher line = Pattern.compile("public \\w+ \\w+\\(.*;").matcher(code);
        while (line.find()) {
            faces.add(line.group().replace(";", "").replaceAll("(int|char|boolean) \\w+([,)])", "$1$2"));
        }
        return faces;
    }

    private static String code() throws IOException {
        String text = Files.readString(Path.of("src/main/java/SnowbolFold.java"));
        return text.replaceAll("(?s)/\\*.*?\\*/", "").replaceAll("//[^\n]*", "")
                .replaceAll("'(\\\\.|[^'\\\\])'", "0").replaceAll("\"[^\"]*\"", "0");
    }

    public static void main(String[] args) throws IOException {
        CHECK.due("the face", facesOfClass(), facesOfDocument());
        CHECK.due("the number of methods", facesOfClass().size(), 33);
        CHECK.due("constructors", SnowbolFold.class.getDeclaredConstructors().length, 1);
        CHECK.due("the class", Modifier.toString(SnowbolFold.class.getModifiers()), "public final");
        for (Field field : SnowbolFold.class.getDeclaredFields()) {
            CHECK.due("private " + field.getName(), Modifier.isPrivate(field.getModifiers()), true);
        }
        Set<String> names = new TreeSet<>();
        Arrays.stream(SnowbolFold.class.getMethods()).filter(m -> m.getDeclaringClass() == SnowbolFold.class)
                .forEach(m -> names.add(m.getName()));
        for (Class<?> inside : SnowbolFold.class.getDeclaredClasses()) {
            CHECK.due("static " + inside, Modifier.isStatic(inside.getModifiers()), true);
            for (Method method : inside.getDeclaredMethods()) {
                CHECK.due("the name " + method.getName() + " is free", names.contains(method.getName()), false);
            }
        }
        List<Class<?>> classes = new ArrayList<>(List.of(SnowbolFold.class.getDeclaredClasses()));
        classes.add(SnowbolFold.class);
        for (Class<?> one : classes) {
            long fields = Arrays.stream(one.getDeclaredFields())
                    .filter(field -> !Modifier.isStatic(field.getModifiers())).count();
            CHECK.due("few fields of " + one, fields <= 20, true);
            for (Field field : one.getDeclaredFields()) {
                boolean isConstant = Modifier.isFinal(field.getModifiers());
                CHECK.due("no state of its own in " + one, !Modifier.isStatic(field.getModifiers()) || isConstant, true);
            }
            for (Method method : one.getDeclaredMethods()) {
                CHECK.due("few parameters of " + method, method.getParameterCount() <= 7, true);
            }
        }
        CHECK.due("few classes", SnowbolFold.class.getDeclaredClasses().length <= 12, true);
        String code = code();
        for (String banned : new String[] {"->", "::", "\\bcatch\\b", "\\bfinally\\b", "\\bassert\\b",
            "\\bsynchronized\\b", "\\bpackage\\b", "Exact\\(", "\\bdouble\\[", "\\bvar\\b",
            "import (?!java\\.util\\.NoSuchElementException;)", "static (?!final|class|\\w+ \\w+\\()",
            "\\bSystem\\b", "\\bObject\\b", "\\bRandom\\b", "while \\(true\\)", "for \\(;;"}) {
            Matcher found = Pattern.compile(banned).matcher(code);
            CHECK.due("what is ruled out: " + banned, found.find(), false);
        }
        CHECK.finish();
    }
}
