import java.io.IOException;
import java.lang.reflect.InvocationTargetException;
import java.lang.reflect.Method;
import java.lang.reflect.Modifier;
import java.nio.file.Files;
import java.nio.file.Path;
import java.util.Map;
import java.util.TreeMap;
import java.util.regex.Matcher;
import java.util.regex.Pattern;

/** README.md tells of every call, and each "x.call(..); // answer" in it is what the class answers. */
public final class ReadmeTest {
    private static final Pattern CALL = Pattern.compile("^x\\.(\\w+)\\(([^)]*)\\);\\s*// ([\\w-]+)");

    public static void main(String[] args) throws IOException, IllegalAccessException {
        String readme = Files.readString(Path.of("README.md"));
        Map<String, Method> face = face();
        int names = 0;
        for (String name : face.keySet()) {
            Due.same("README.md names " + name, readme.contains("`" + name + "`") ? 1 : 0, 1);
            names++;
        }
        Due.same("calls of the face", names, 54);
        Due.same("examples found", examples(readme, face) >= 40 ? 1 : 0, 1);
        Due.end();
    }

    private static Map<String, Method> face() {
        Map<String, Method> all = new TreeMap<>();
        for (Method method : DrawnSounds.class.getDeclaredMethods()) {
            if (Modifier.isPublic(method.getModifiers())) {
                all.put(method.getName(), method);
            }
        }
        return all;
    }

    private static int examples(String readme, Map<String, Method> face) throws IllegalAccessException {
        DrawnSounds x = new DrawnSounds();
        int found = 0;
        for (String line : readme.split("\n")) {
            if (line.contains("x = new DrawnSounds()")) {
                x = new DrawnSounds();
            }
            Matcher matcher = CALL.matcher(line);
            if (matcher.find()) {
                Method method = face.get(matcher.group(1));
                String got = method == null ? "no such call" : answer(x, method, matcher.group(2));
                boolean right = got.equals(matcher.group(3));
                Due.same("README.md: " + line + " (now " + got + ")", right ? 1 : 0, 1);
                found++;
            } else {
                Due.same("README.md tells no answer: " + line, line.startsWith("x.") ? 1 : 0, 0);
            }
        }
        return found;
    }

    private static String answer(DrawnSounds x, Method method, String given) throws IllegalAccessException {
        String[] numbers = given.isBlank() ? new String[0] : given.split(",");
        Object[] values = new Object[numbers.length];
        for (int i = 0; i < numbers.length; i++) {
            values[i] = Long.decode(numbers[i].trim()).intValue();
        }
        try {
            return String.valueOf(method.invoke(x, values));
        } catch (InvocationTargetException e) {
            return e.getCause().getClass().getSimpleName();
        }
    }
}
