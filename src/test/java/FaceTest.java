import java.io.IOException;
import java.lang.reflect.Constructor;
import java.lang.reflect.Field;
import java.lang.reflect.Method;
import java.lang.reflect.Modifier;
import java.nio.file.Files;
import java.nio.file.Path;
import java.util.Arrays;
import java.util.Set;
import java.util.TreeSet;
import java.util.regex.Matcher;
import java.util.regex.Pattern;
import java.util.stream.Collectors;

/** The face is the document's and no more, and the source keeps to what the rules leave. */
public final class FaceTest {
    private static final Pattern METHOD =
            Pattern.compile("public (int|void|boolean) (\\w+)\\(([^)]*)\\)(?: throws ([\\w, ]+))?;");
    private static int wrong;

    private static void check(String what, Object got, Object want) {
        if (!got.equals(want)) {
            wrong++;
            System.out.println(what + ": " + got + "\n  due: " + want);
        }
    }

    private static String line(String type, String name, String parameters, String thrown) {
        return type + " " + name + "(" + parameters + ") throws " + thrown;
    }

    private static Set<String> asTold(String document) {
        Set<String> face = new TreeSet<>();
        Matcher m = METHOD.matcher(document.substring(document.indexOf("```java"),
                document.indexOf("## Terms")));
        while (m.find()) {
            String parameters = m.group(3).replaceAll("(\\w+) \\w+", "$1");
            String thrown = m.group(4) == null ? "" : m.group(4);
            face.add(line(m.group(1), m.group(2), parameters, thrown));
        }
        return face;
    }

    private static String names(Class<?>[] types) {
        return Arrays.stream(types).map(Class::getSimpleName).collect(Collectors.joining(", "));
    }

    private static Set<String> asBuilt() {
        Set<String> face = new TreeSet<>();
        for (Method m : RoundCoracles.class.getDeclaredMethods()) {
            if (!Modifier.isPrivate(m.getModifiers())) {
                face.add(line(m.getReturnType().getSimpleName(), m.getName(),
                        names(m.getParameterTypes()), names(m.getExceptionTypes())));
            }
        }
        return face;
    }

    private static void noPrivateNamesake() {
        Set<String> faceNames = new TreeSet<>();
        for (Method m : RoundCoracles.class.getDeclaredMethods()) {
            if (Modifier.isPublic(m.getModifiers())) {
                faceNames.add(m.getName());
            }
        }
        for (Method m : RoundCoracles.class.getDeclaredMethods()) {
            check(m.getName() + " is private and on the face",
                    !Modifier.isPublic(m.getModifiers()) && faceNames.contains(m.getName()), false);
        }
        for (Class<?> inside : RoundCoracles.class.getDeclaredClasses()) {
            check(inside + " is static", Modifier.isStatic(inside.getModifiers()), true);
            for (Method m : inside.getDeclaredMethods()) {
                check(inside + "." + m.getName() + " is on the face",
                        faceNames.contains(m.getName()), false);
            }
        }
    }

    private static void fields() {
        for (Field f : RoundCoracles.class.getDeclaredFields()) {
            int flags = f.getModifiers();
            check(f.getName() + " is hidden", Modifier.isPrivate(flags), !f.getName().equals("NONE"));
            if (Modifier.isStatic(flags)) {
                check(f.getName() + " is final", Modifier.isFinal(flags), true);
            }
        }
        check("NONE", RoundCoracles.NONE, -1);
    }

    private static void source(String text) {
        String[] unwanted = {"\\bcatch\\b", "\\bfinally\\b", "\\btry\\b", "->", "::", "\\bassert\\b",
            "\\bsynchronized\\b", "\\bSystem\\.(?!arraycopy)", "Exact\\b", "\\bdouble\\b",
            "\\bfloat\\b", "\\bpackage\\b", "while \\(true\\)", "for \\(;;\\)", "[^\\x00-\\x7f]"};
        for (String pattern : unwanted) {
            check(pattern + " in the source", Pattern.compile(pattern).matcher(text).find(), false);
        }
        Matcher m = Pattern.compile("import [^;]+;").matcher(text);
        Set<String> imports = new TreeSet<>();
        while (m.find()) {
            imports.add(m.group());
        }
        check("imports", imports, new TreeSet<>(Set.of("import java.util.Arrays;",
                "import java.util.NoSuchElementException;")));
    }

    public static void main(String[] args) throws IOException {
        String document = Files.readString(Path.of(args[1], "DOC.md"));
        Set<String> told = asTold(document);
        check("methods of the document", told.size(), 39);
        check("the face", asBuilt(), told);
        check("public", Modifier.isPublic(RoundCoracles.class.getModifiers()), true);
        check("final", Modifier.isFinal(RoundCoracles.class.getModifiers()), true);
        Constructor<?>[] constructors = RoundCoracles.class.getDeclaredConstructors();
        check("constructors", constructors.length, 1);
        check("public constructor", Modifier.isPublic(constructors[0].getModifiers()), true);
        noPrivateNamesake();
        fields();
        source(Files.readString(Path.of(args[0], "src/main/java/RoundCoracles.java")));
        System.out.println(wrong == 0 ? "the face is as told" : wrong + " things are not as told");
        System.exit(wrong == 0 ? 0 : 1);
    }
}
