import java.lang.reflect.Method;
import java.lang.reflect.Modifier;
import java.nio.file.Files;
import java.nio.file.Path;
import java.util.Set;
import java.util.TreeMap;
import java.util.TreeSet;
import java.util.regex.Matcher;
import java.util.regex.Pattern;

/** The example in README.md: each call in it answers what is written there, and no call is left out. */
public final class ReadmeTest {
    private static final Due DUE = new Due("ReadmeTest");
    private static final Pattern MADE = Pattern.compile("ScanDesk desk = new ScanDesk\\((\\d+)\\);.*");
    private static final Pattern CALLED = Pattern.compile("desk\\.(\\w+)\\((.*)\\); +// ([^:]+)(:.*)?");

    public static void main(String[] args) throws Exception {
        Set<String> shown = new TreeSet<>();
        ScanDesk desk = null;
        for (String row : Files.readAllLines(Path.of("README.md"))) {
            Matcher made = MADE.matcher(row);
            Matcher called = CALLED.matcher(row);
            if (made.matches()) {
                desk = new ScanDesk(Integer.parseInt(made.group(1)));
            } else if (called.matches()) {
                shown.add(called.group(1));
                DUE.is(row, answer(desk, called.group(1), called.group(2)), called.group(3));
            }
        }
        DUE.is("the calls of the example", shown.toString(), face().keySet().toString());
        DUE.finish();
    }

    private static TreeMap<String, Method> face() {
        TreeMap<String, Method> face = new TreeMap<>();
        for (Method method : ScanDesk.class.getDeclaredMethods()) {
            if (Modifier.isPublic(method.getModifiers())) {
                face.put(method.getName(), method);
            }
        }
        return face;
    }

    private static String answer(ScanDesk desk, String name, String given) throws Exception {
        Method method = face().get(name);
        Class<?>[] types = method.getParameterTypes();
        String[] texts = given.isEmpty() ? new String[0] : given.split(", ");
        Object[] values = new Object[texts.length];
        for (int i = 0; i < texts.length; i++) {
            long value = number(texts[i]);
            values[i] = types[i] == long.class ? (Object) value : (Object) (int) value;
        }
        return method.invoke(desk, values).toString();
    }

    private static long number(String text) {
        return text.startsWith("'") ? text.charAt(1) : Long.decode(text);
    }
}
