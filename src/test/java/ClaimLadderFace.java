import java.io.IOException;
import java.lang.reflect.Constructor;
import java.lang.reflect.Field;
import java.lang.reflect.Method;
import java.lang.reflect.Modifier;
import java.nio.file.Files;
import java.nio.file.Path;
import java.util.ArrayList;
import java.util.List;
import java.util.TreeSet;
import java.util.regex.Matcher;
import java.util.regex.Pattern;

/** The document's face and no more, and the rules of LANGUAGE.md that can be seen in the source. */
public final class ClaimLadderFace {
    private static final String[] FACE = {
        "int contract(int,int,int)", "int renew(int,int,int)", "int refer(int,int,boolean)", "int loss(int)",
        "int of(int,int)", "int feed(int)", "int read()", "int ring(int,int)", "int pays(int)", "int told(int)",
        "int why(int,int)", "int net(int,int)", "long more(int)", "int from(int)", "int see(int,int)",
        "int fits(int)", "long odds(int,int)", "long mean(int)", "int plan(int,int)", "int ends(int)",
        "int book(int,int)", "int looked()", "int judge(int,int)", "int image()", "int undo()", "int count(int)",
        "int tape(int,int,int)", "int item(int,int,long)", "long peek(int,int)", "int shift(int,int,int,int,int)"};
    private static final String[] CONSTANTS = {"int NONE", "int BAD", "int STATE", "int FULL", "long NO"};
    private static final String[] FORBIDDEN = {"throw", "try", "catch", "synchronized", "assert", "import",
        "package", "protected", "->", "::", "\\w+Exact", "equals", "hashCode", "toString", "while\\s*\\(\\s*true"};

    private static int wrong = 0;

    private static void tell(String what) {
        wrong++;
        System.out.println(what);
    }

    public static void main(String[] args) throws IOException {
        lookAtMembers();
        lookAtNested();
        lookAtSource(Files.readString(Path.of("src/main/java/ClaimLadder.java")));
        System.out.println(wrong == 0 ? "the face is as told" : wrong + " faults of the face");
        if (wrong != 0) {
            System.exit(1);
        }
    }

    private static void lookAtMembers() {
        TreeSet<String> methods = new TreeSet<>();
        for (Method m : ClaimLadder.class.getDeclaredMethods()) {
            if (!Modifier.isPrivate(m.getModifiers())) {
                methods.add(signature(m));
            }
        }
        compare("methods", methods, FACE);
        TreeSet<String> fields = new TreeSet<>();
        for (Field f : ClaimLadder.class.getDeclaredFields()) {
            if (!Modifier.isPrivate(f.getModifiers())) {
                fields.add(f.getType().getSimpleName() + " " + f.getName());
            }
            if (Modifier.isStatic(f.getModifiers()) && !Modifier.isFinal(f.getModifiers())) {
                tell("static but not final: " + f.getName());
            }
        }
        compare("constants", fields, CONSTANTS);
        Constructor<?>[] made = ClaimLadder.class.getDeclaredConstructors();
        if (made.length != 1 || made[0].getParameterCount() != 0 || !Modifier.isPublic(made[0].getModifiers())) {
            tell("constructors");
        }
        if (!Modifier.isFinal(ClaimLadder.class.getModifiers())) {
            tell("the class isn't final");
        }
    }

    private static String signature(Method m) {
        List<String> types = new ArrayList<>();
        for (Class<?> type : m.getParameterTypes()) {
            types.add(type.getSimpleName());
        }
        return m.getReturnType().getSimpleName() + " " + m.getName() + "(" + String.join(",", types) + ")";
    }

    private static void compare(String what, TreeSet<String> got, String[] want) {
        TreeSet<String> due = new TreeSet<>(List.of(want));
        if (!got.equals(due)) {
            tell(what + ": " + got + ", due are " + due);
        }
    }

    private static void lookAtNested() {
        TreeSet<String> open = new TreeSet<>();
        for (Method m : ClaimLadder.class.getMethods()) {
            if (m.getDeclaringClass() == ClaimLadder.class) {
                open.add(m.getName());
            }
        }
        Class<?>[] nested = ClaimLadder.class.getDeclaredClasses();
        if (nested.length > 11) {
            tell("too many classes: " + nested.length);
        }
        for (Class<?> inside : nested) {
            if (!Modifier.isStatic(inside.getModifiers()) || Modifier.isPublic(inside.getModifiers())) {
                tell("not static, or public: " + inside.getName());
            }
            if (inside.getDeclaredFields().length > 20) {
                tell("too many fields: " + inside.getName());
            }
            for (Method m : inside.getDeclaredMethods()) {
                if (open.contains(m.getName()) || m.getParameterCount() > 7) {
                    tell("name or parameters: " + inside.getName() + "." + m.getName());
                }
            }
        }
    }

    private static void lookAtSource(String source) {
        String code = Pattern.compile("/\\*.*?\\*/|//[^\n]*", Pattern.DOTALL).matcher(source).replaceAll("");
        for (String word : FORBIDDEN) {
            String edge = Character.isLetter(word.charAt(0)) ? "\\b" : "";
            Matcher m = Pattern.compile(edge + word + (edge.isEmpty() || word.endsWith("(true") ? "" : "\\b")).matcher(code);
            if (m.find()) {
                tell("forbidden: " + m.group());
            }
        }
        int lines = 0;
        for (String line : code.split("\n", -1)) {
            lines = line.matches(" {4}(?: {4})?\\S.*\\) \\{") ? 0 : lines + 1;
            if (line.matches(" {4}(?: {4})?\\}") && lines > 60) {
                tell("a method of " + lines + " lines");
            }
        }
    }
}
