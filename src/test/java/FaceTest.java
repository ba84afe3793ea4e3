import java.io.IOException;
import java.lang.reflect.Constructor;
import java.lang.reflect.Field;
import java.lang.reflect.Member;
import java.lang.reflect.Method;
import java.lang.reflect.Modifier;
import java.nio.file.Files;
import java.nio.file.Path;
import java.util.ArrayList;
import java.util.Arrays;
import java.util.List;
import java.util.Set;
import java.util.TreeSet;
import java.util.regex.Matcher;
import java.util.regex.Pattern;

/** The face is the document's and no more, and the source keeps to what LANGUAGE.md tells. */
public final class FaceTest {
    private static final Path SOURCE = Path.of("src/main/java/DrawnSounds.java");
    private static final Path DOCUMENT = Path.of("../shared/DOC.md");

    public static void main(String[] args) throws IOException {
        String source = plain(Files.readString(SOURCE));
        Set<String> due = documentsFace();
        Set<String> own = new TreeSet<>();
        Set<String> names = new TreeSet<>();
        for (Method method : DrawnSounds.class.getDeclaredMethods()) {
            if (!Modifier.isPrivate(method.getModifiers())) {
                own.add(signature(method));
                names.add(method.getName());
            }
        }
        Due.same("the face: methods too many or too few", same(own, due), 1);
        onlyFace();
        for (Class<?> inner : DrawnSounds.class.getDeclaredClasses()) {
            boolean right = Modifier.isStatic(inner.getModifiers()) && !Modifier.isPublic(inner.getModifiers())
                && !Modifier.isProtected(inner.getModifiers());
            Due.same("rule 1: " + inner, right ? 1 : 0, 1);
            statics(inner);
            sizes(inner);
            for (Method method : inner.getDeclaredMethods()) {
                Due.same("rule 1: the name of " + method, names.contains(method.getName()) ? 1 : 0, 0);
            }
        }
        for (Method method : DrawnSounds.class.getDeclaredMethods()) {
            boolean both = Modifier.isPrivate(method.getModifiers()) && names.contains(method.getName());
            Due.same("rule 1: the name of " + method, both ? 1 : 0, 0);
        }
        statics(DrawnSounds.class);
        sizes(DrawnSounds.class);
        words(source);
        Due.end();
    }

    private static long same(Set<String> own, Set<String> due) {
        if (own.equals(due)) {
            return 1;
        }
        System.out.println("own: " + own);
        System.out.println("due: " + due);
        return 0;
    }

    private static String signature(Method method) {
        List<String> parts = new ArrayList<>();
        for (Class<?> type : method.getParameterTypes()) {
            parts.add(type.getSimpleName());
        }
        List<String> thrown = new ArrayList<>();
        for (Class<?> type : method.getExceptionTypes()) {
            thrown.add(type.getSimpleName());
        }
        boolean right = Modifier.isPublic(method.getModifiers()) && !Modifier.isStatic(method.getModifiers());
        return (right ? "" : "NOT PUBLIC ") + method.getReturnType().getSimpleName() + " " + method.getName() + parts + thrown;
    }

    private static Set<String> documentsFace() throws IOException {
        String text = Files.readString(DOCUMENT);
        String block = text.substring(text.indexOf("public final class DrawnSounds"), text.indexOf("## Terms"));
        Matcher matcher = Pattern.compile("public (int|long) (\\w+)\\(([^)]*)\\)( throws ([^;]*))?;").matcher(block);
        Set<String> all = new TreeSet<>();
        while (matcher.find()) {
            List<String> types = new ArrayList<>();
            for (String part : matcher.group(3).split(",")) {
                if (!part.isBlank()) {
                    types.add(part.trim().split(" ")[0]);
                }
            }
            List<String> thrown = matcher.group(5) == null ? List.of() : Arrays.asList(matcher.group(5).split(", "));
            all.add(matcher.group(1) + " " + matcher.group(2) + types + thrown);
        }
        Due.same("the document's methods", all.size(), 54);
        return all;
    }

    private static void onlyFace() {
        Class<?> face = DrawnSounds.class;
        Due.same("public and final", face.getModifiers() & (Modifier.PUBLIC | Modifier.FINAL), Modifier.PUBLIC | Modifier.FINAL);
        for (Constructor<?> made : face.getDeclaredConstructors()) {
            Due.same("rule 1: " + made, Modifier.isPublic(made.getModifiers()) && made.getParameterCount() == 0 ? 1 : 0, 1);
        }
        for (Field field : face.getDeclaredFields()) {
            boolean constant = field.getName().equals("NONE") || field.getName().equals("VOID");
            int due = constant ? Modifier.PUBLIC | Modifier.STATIC | Modifier.FINAL : Modifier.PRIVATE;
            Due.same("rule 1: " + field, field.getModifiers() & due, due);
        }
        Due.same("rule 11: at most some twelve classes", 1 + face.getDeclaredClasses().length <= 12 ? 1 : 0, 1);
    }

    private static void statics(Class<?> of) {
        for (Field field : of.getDeclaredFields()) {
            if (Modifier.isStatic(field.getModifiers())) {
                boolean right = Modifier.isFinal(field.getModifiers())
                    && (field.getType().isPrimitive() || field.getType() == String.class);
                Due.same("rule 5: " + field, right ? 1 : 0, 1);
            }
        }
    }

    private static void sizes(Class<?> of) {
        long fields = Arrays.stream(of.getDeclaredFields()).filter(f -> !isStatic(f)).count();
        Due.same("rule 11: fields of " + of, fields <= 20 ? 1 : 0, 1);
        for (Method method : of.getDeclaredMethods()) {
            Due.same("rule 11: " + method, method.getParameterCount() <= 7 ? 1 : 0, 1);
        }
    }

    private static boolean isStatic(Member member) {
        return Modifier.isStatic(member.getModifiers());
    }

    /** The source without comments. */
    private static String plain(String source) {
        return source.replaceAll("(?s)/\\*.*?\\*/", " ").replaceAll("//[^\n]*", " ");
    }

    private static void words(String source) {
        String[] never = {"->", "::", "\\btry\\b", "\\bcatch\\b", "\\bfinally\\b", "\\bsynchronized\\b", "\\bassert\\b",
            "\\bfloat\\b", "\\bdouble\\b", "\\bThread\\b", "\\bRandom\\b", "\\bcurrentTimeMillis\\b", "\\bnanoTime\\b",
            "Exact\\b", "\\bprotected\\b", "\\bpackage\\b", "\\bsuper\\b", "\\bObject\\b", "\\binstanceof\\b",
            "[^\\x00-\\x7f]", "\"\\s*\\+|\\+\\s*\"", "static\\s*\\{"};
        for (String word : never) {
            Due.same("LANGUAGE.md: " + word, Pattern.compile(word).matcher(source).find() ? 1 : 0, 0);
        }
        Matcher imports = Pattern.compile("import ([^;]*);").matcher(source);
        while (imports.find()) {
            boolean right = imports.group(1).equals("java.util.Arrays")
                || imports.group(1).equals("java.util.NoSuchElementException");
            Due.same("rule 4: " + imports.group(), right ? 1 : 0, 1);
        }
        Matcher calls = Pattern.compile("\\b(Math|Arrays|System|Integer|Long)\\.(\\w+)").matcher(source);
        Set<String> right = Set.of("Math.max", "Math.min", "Math.abs", "Arrays.fill", "System.arraycopy");
        while (calls.find()) {
            Due.same("rule 4: " + calls.group(), right.contains(calls.group()) ? 1 : 0, 1);
        }
    }
}
