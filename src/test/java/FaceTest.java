import java.io.IOException;
import java.lang.reflect.Constructor;
import java.lang.reflect.Field;
import java.lang.reflect.Method;
import java.lang.reflect.Modifier;
import java.nio.file.Files;
import java.nio.file.Path;
import java.util.ArrayList;
import java.util.List;
import java.util.Set;
import java.util.TreeSet;
import java.util.regex.Matcher;
import java.util.regex.Pattern;

/** The public face as the document has it, and the rules of the language that can be read off the source. */
public final class FaceTest {
    private static final Path DOCUMENT = Path.of("../shared/DOC.md");
    private static final Path SOURCE = Path.of("src/main/java/CrankCalculator.java");
    private static int wrong = 0;

    public static void main(String[] args) throws IOException {
        face();
        names();
        source();
        System.out.println(wrong + " things are wrong");
        if (wrong > 0) {
            System.exit(1);
        }
    }

    private static void holds(boolean isSo, String what) {
        if (!isSo) {
            wrong++;
            System.out.println(what);
        }
    }

    /** Signatures as the document writes them, but without the names of the parameters. */
    private static Set<String> documentedMethods() throws IOException {
        String text = Files.readString(DOCUMENT);
        String block = text.substring(text.indexOf("```java"), text.indexOf("```", text.indexOf("```java") + 3));
        Set<String> methods = new TreeSet<>();
        Matcher m = Pattern.compile("public (\\w+) (\\w+)\\((.*?)\\)(?: throws (.*?))?;").matcher(block);
        while (m.find()) {
            List<String> types = new ArrayList<>();
            for (String parameter : m.group(3).split(", ")) {
                types.add(parameter.split(" ")[0]);
            }
            methods.add(m.group(1) + " " + m.group(2) + "(" + String.join(", ", types) + ")"
                + (m.group(4) == null ? "" : " throws " + m.group(4)));
        }
        return methods;
    }

    private static String signature(Method method) {
        return method.getReturnType().getSimpleName() + " " + method.getName() + "("
            + simpleNames(method.getParameterTypes()) + ")"
            + (method.getExceptionTypes().length == 0 ? "" : " throws " + simpleNames(method.getExceptionTypes()));
    }

    private static String simpleNames(Class<?>[] classes) {
        List<String> names = new ArrayList<>();
        for (Class<?> c : classes) {
            names.add(c.getSimpleName());
        }
        return String.join(", ", names);
    }

    private static void face() throws IOException {
        Class<?> c = CrankCalculator.class;
        holds(Modifier.isPublic(c.getModifiers()) && Modifier.isFinal(c.getModifiers()), "the class is public and final");
        Set<String> methods = new TreeSet<>();
        for (Method method : c.getDeclaredMethods()) {
            if (Modifier.isPublic(method.getModifiers())) {
                methods.add(signature(method));
            } else {
                holds(Modifier.isPrivate(method.getModifiers()) || method.isSynthetic(), method + " is private");
            }
        }
        Set<String> documented = documentedMethods();
        holds(documented.size() == 50, "the document has 50 methods, found " + documented.size());
        holds(methods.equals(documented), "the methods are " + methods + "\ndue are " + documented);
        for (Constructor<?> constructor : c.getDeclaredConstructors()) {
            holds(constructor.getParameterCount() == 0 && Modifier.isPublic(constructor.getModifiers()),
                "the only constructor is public, without parameters");
        }
        for (Field field : c.getDeclaredFields()) {
            boolean isConstant = field.getName().equals("NONE")
                && Modifier.toString(field.getModifiers()).equals("public static final")
                && field.getType() == int.class;
            holds(isConstant || Modifier.isPrivate(field.getModifiers()), field + " is private");
        }
    }

    private static void names() {
        Set<String> face = new TreeSet<>();
        for (Method method : CrankCalculator.class.getDeclaredMethods()) {
            if (Modifier.isPublic(method.getModifiers())) {
                face.add(method.getName());
            }
        }
        Class<?>[] inside = CrankCalculator.class.getDeclaredClasses();
        holds(inside.length <= 12, "some twelve classes at most");
        for (Class<?> c : inside) {
            holds(!Modifier.isPublic(c.getModifiers()) && Modifier.isStatic(c.getModifiers()), c + " is private, static");
            int fields = 0;
            for (Field field : c.getDeclaredFields()) {
                fields += Modifier.isStatic(field.getModifiers()) ? 0 : 1;
                holds(!Modifier.isStatic(field.getModifiers()) || Modifier.isFinal(field.getModifiers()),
                    field + " is final");
            }
            holds(fields <= 20, c + " has some twenty fields at most");
            for (Method method : c.getDeclaredMethods()) {
                holds(!face.contains(method.getName()), method + " bears a name of the face");
                holds(method.getParameterCount() <= 7, method + " takes seven parameters at most");
            }
        }
    }

    private static void source() throws IOException {
        String code = Files.readString(SOURCE).replaceAll("(?s)/\\*.*?\\*/", "").replaceAll("//.*", "");
        String[] ruledOut = {"^package\\b", "->", "::", "\\btry\\b", "\\bcatch\\b", "\\bfinally\\b", "\\bassert\\b",
            "\\bsynchronized\\b", "\\bnative\\b", "\\bvar\\b", "\\bObject\\b", "\\bdouble\\b", "Exact\\(", "\\bThread\\b",
            "\\bRandom\\b", "nanoTime", "currentTimeMillis", "\\bNaN\\b", "import (?!java\\.util\\.(Arrays|NoSuchElementException);)",
            "throw (?!new \\w+\\(\"[^\"]*\"\\);)", "while \\(true\\)", "for \\(;"};
        for (String pattern : ruledOut) {
            holds(!Pattern.compile(pattern, Pattern.MULTILINE).matcher(code).find(), "the source has " + pattern);
        }
        for (char sign : code.toCharArray()) {
            holds(sign >= 10 && sign < 127, "the source has the sign " + (int) sign);
        }
    }
}
