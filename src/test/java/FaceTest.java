import java.io.IOException;
import java.lang.reflect.Field;
import java.lang.reflect.Method;
import java.lang.reflect.Modifier;
import java.nio.charset.StandardCharsets;
import java.nio.file.Files;
import java.nio.file.Path;
import java.util.HashSet;
import java.util.Set;
import java.util.TreeSet;
import java.util.regex.Matcher;
import java.util.regex.Pattern;

/** The public face, and those rules of LANGUAGE.md that can be seen from outside or in the text. */
public final class FaceTest {
    private static final Path DOCUMENT = Path.of("..", "shared", "DOC.md");
    private static final Path SOURCE = Path.of("src", "main", "java", "Nominator.java");
    private static final Pattern CONSTANT = Pattern.compile("public static final int (\\w+) = (-?\\d+);");
    private static final Pattern METHOD = Pattern.compile("public (\\w+ \\w+\\(.*);");
    private static final Pattern IMPORT = Pattern.compile("(?m)^import .*$");

    private FaceTest() {
    }

    public static void main(String[] args) throws IOException {
        String document = Files.readString(DOCUMENT);
        String face = document.substring(document.indexOf("```java"), document.indexOf("## Terms"));
        constants(face);
        methods(face);
        nothingElse();
        sizes();
        text(Files.readString(SOURCE));
        Check.end();
    }

    private static void constants(String face) {
        Set<String> due = new TreeSet<>();
        Matcher matcher = CONSTANT.matcher(face);
        while (matcher.find()) {
            due.add(matcher.group(1) + " = " + matcher.group(2));
        }
        Set<String> got = new TreeSet<>();
        for (Field field : Nominator.class.getDeclaredFields()) {
            if (Modifier.isPublic(field.getModifiers())) {
                got.add(field.getName() + " = " + valueOf(field));
            }
        }
        Check.same("number of constants in the document", due.size(), 15);
        Check.same("constants", got, due);
    }

    private static Object valueOf(Field field) {
        boolean constant = Modifier.isStatic(field.getModifiers()) && Modifier.isFinal(field.getModifiers());
        return constant && field.getType() == int.class ? Check.outcomeOf(() -> field.get(null)) : "of a wrong kind";
    }

    private static void methods(String face) {
        Set<String> due = new TreeSet<>();
        Matcher matcher = METHOD.matcher(face);
        while (matcher.find()) {
            due.add(withoutNames(matcher.group(1)));
        }
        Set<String> got = new TreeSet<>();
        for (Method method : Nominator.class.getDeclaredMethods()) {
            if (!Modifier.isPrivate(method.getModifiers())) {
                Check.same("modifiers of " + method.getName(), method.getModifiers(), Modifier.PUBLIC);
                got.add(described(method));
            }
        }
        Check.same("number of methods in the document", due.size(), 44);
        Check.same("methods", got, due);
    }

    /** "int pay(int paper, int amount) throws A, B" without the names of the parameters. */
    private static String withoutNames(String method) {
        return method.replaceAll("(int|char) \\w+([,)])", "$1$2");
    }

    private static String described(Method method) {
        StringBuilder text = new StringBuilder();
        text.append(method.getReturnType().getSimpleName()).append(' ').append(method.getName()).append('(');
        text.append(joined(method.getParameterTypes())).append(')');
        if (method.getExceptionTypes().length > 0) {
            text.append(" throws ").append(joined(method.getExceptionTypes()));
        }
        return text.toString();
    }

    private static String joined(Class<?>[] types) {
        StringBuilder text = new StringBuilder();
        for (Class<?> type : types) {
            text.append(text.length() == 0 ? "" : ", ").append(type.getSimpleName());
        }
        return text.toString();
    }

    private static void nothingElse() {
        Check.same("modifiers of the class", Nominator.class.getModifiers(), Modifier.PUBLIC | Modifier.FINAL);
        Check.same("constructors", Nominator.class.getDeclaredConstructors().length, 1);
        Check.same("modifiers of the constructor", Nominator.class.getDeclaredConstructors()[0].getModifiers(),
                Modifier.PUBLIC);
        Check.same("parameters of the constructor", Nominator.class.getDeclaredConstructors()[0].getParameterCount(),
                0);
        Set<String> names = new HashSet<>();
        for (Method method : Nominator.class.getMethods()) {
            names.add(method.getName());
        }
        for (Class<?> inside : Nominator.class.getDeclaredClasses()) {
            Check.same(inside.getName() + " is static", Modifier.isStatic(inside.getModifiers()), true);
            Check.same(inside.getName() + " is private", Modifier.isPrivate(inside.getModifiers()), true);
            for (Method method : inside.getDeclaredMethods()) {
                Check.same(method + " bears a public name", names.contains(method.getName()), false);
            }
        }
        for (Method method : Nominator.class.getDeclaredMethods()) {
            boolean hidden = Modifier.isPrivate(method.getModifiers());
            Check.same(method + " bears a public name", hidden && names.contains(method.getName()), false);
        }
        staticFieldsAreConstants();
    }

    private static void staticFieldsAreConstants() {
        constantsAlone(Nominator.class);
        for (Class<?> inside : Nominator.class.getDeclaredClasses()) {
            constantsAlone(inside);
        }
    }

    private static void constantsAlone(Class<?> type) {
        for (Field field : type.getDeclaredFields()) {
            if (Modifier.isStatic(field.getModifiers())) {
                Check.same(field + " is final", Modifier.isFinal(field.getModifiers()), true);
                Check.same(field + " is a number", field.getType().isPrimitive(), true);
            }
        }
    }

    /** Rule 11 of LANGUAGE.md. */
    private static void sizes() {
        Set<Class<?>> classes = new HashSet<>(Set.of(Nominator.class.getDeclaredClasses()));
        classes.add(Nominator.class);
        Check.same("more than 12 classes", classes.size() > 12, false);
        for (Class<?> type : classes) {
            int fields = 0;
            for (Field field : type.getDeclaredFields()) {
                fields += Modifier.isStatic(field.getModifiers()) ? 0 : 1;
            }
            Check.same(type + " has more than 20 fields", fields > 20, false);
            for (Method method : type.getDeclaredMethods()) {
                Check.same(method + " has more than 7 parameters", method.getParameterCount() > 7, false);
            }
        }
    }

    private static void text(String source) {
        Matcher imports = IMPORT.matcher(source);
        Set<String> got = new TreeSet<>();
        while (imports.find()) {
            got.add(imports.group());
        }
        Check.same("imports", got, Set.of("import java.util.NoSuchElementException;"));
        Check.same("signs 1 to 127 alone", StandardCharsets.US_ASCII.newEncoder().canEncode(source), true);
        for (String banned : new String[] {"catch", "->", "::", "finally", "assert ", "synchronized", "package ",
            "static {", "Exact(", "java.lang", "Object", "\" +", "+ \""}) {
            Check.same("the source has " + banned, source.contains(banned), false);
        }
        Matcher thrown = Pattern.compile("(?m)^\\s*throw\\s+(?!new \\w+\\(\"[^\"]*\"\\);)").matcher(source);
        Check.same("a throw of another form", thrown.find(), false);
    }
}
