import java.lang.reflect.Method;
import java.lang.reflect.Modifier;
import java.nio.file.Files;
import java.nio.file.Path;
import java.util.Set;
import java.util.TreeSet;
import java.util.regex.Matcher;
import java.util.regex.Pattern;

/** Makes the calls that README.md shows, and looks whether each answers what the page says. */
public final class ClaimLadderReadme {
    private static final Pattern CALL = Pattern.compile("x\\.(\\w+)\\((.*)\\);\\s*// (-?\\d+|NO)\\b.*");
    private static int wrong = 0;
    private static int looked = 0;

    public static void main(String[] args) throws Exception {
        ClaimLadder x = new ClaimLadder();
        Set<String> untold = face();
        boolean isCode = false;
        for (String line : Files.readAllLines(Path.of("README.md"))) {
            if (line.startsWith("```")) {
                isCode = line.equals("```java");
            } else if (isCode && !line.equals("ClaimLadder x = new ClaimLadder();")) {
                look(x, line, untold);
            }
        }
        if (!untold.isEmpty()) {
            complain("README.md has no call of " + untold);
        }
        if (looked == 0) {
            complain("README.md shows no calls");
        }
        System.out.println(looked + " calls of README.md looked at, " + wrong + " not as told");
        if (wrong > 0) {
            System.exit(1);
        }
    }

    private static Set<String> face() {
        Set<String> names = new TreeSet<>();
        for (Method m : ClaimLadder.class.getDeclaredMethods()) {
            if (Modifier.isPublic(m.getModifiers())) {
                names.add(m.getName());
            }
        }
        return names;
    }

    private static void look(ClaimLadder x, String line, Set<String> untold) throws Exception {
        Matcher m = CALL.matcher(line);
        if (!m.matches()) {
            complain("not a call with its answer: " + line);
            return;
        }
        looked++;
        untold.remove(m.group(1));
        long due = m.group(3).equals("NO") ? ClaimLadder.NO : Long.parseLong(m.group(3));
        long got = answer(x, m.group(1), m.group(2).isEmpty() ? new String[0] : m.group(2).split(", "));
        if (got != due) {
            complain(line + " answered " + got);
        }
    }

    private static long answer(ClaimLadder x, String name, String[] words) throws Exception {
        for (Method m : ClaimLadder.class.getDeclaredMethods()) {
            if (Modifier.isPublic(m.getModifiers()) && m.getName().equals(name)) {
                Class<?>[] types = m.getParameterTypes();
                Object[] values = new Object[types.length];
                for (int i = 0; i < types.length; i++) {
                    values[i] = value(types[i], words[i]);
                }
                return ((Number) m.invoke(x, values)).longValue();
            }
        }
        throw new IllegalArgumentException("no such call: " + name);
    }

    private static Object value(Class<?> type, String word) {
        if (type == boolean.class) {
            return Boolean.valueOf(word);
        }
        if (type == long.class) {
            return Long.valueOf(word);
        }
        return word.startsWith("'") ? Integer.valueOf(word.charAt(1)) : Integer.valueOf(word);
    }

    private static void complain(String what) {
        wrong++;
        System.out.println(what);
    }
}
