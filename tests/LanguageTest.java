import java.io.IOException;
import java.lang.reflect.Constructor;
import java.lang.reflect.Field;
import java.lang.reflect.Method;
import java.lang.reflect.Modifier;
import java.nio.file.Files;
import java.nio.file.Path;
import java.util.Set;
import java.util.TreeSet;
import java.util.regex.Matcher;
import java.util.regex.Pattern;

/** The public face, and the rules of LANGUAGE.md that can be seen from the source's words and from the classes. */
public final class LanguageTest {
    private static final Path SOURCE = Path.of("src/main/java/TriggerStages.java");
    private static final String[] CONSTANTS = {"NO_SUCH=-1", "BAD_VALUE=-2", "BAD_TEXT=-3", "TOO_MANY=-4",
        "NOT_POSSIBLE=-5", "NONE=-6", "LAY=0", "ADD=1", "DROP=2", "AHEAD=0", "BEHIND=1", "LAST=2", "CUT=1", "LONG=2",
        "MOTION=3", "ROW=4", "REFUSED=5"};
    private static final String[] METHODS = {"set(int,int)", "trigger(int,int,int,int)", "deed(int,int,int,int,int)",
        "dropTrigger(int)", "state(int,int,int,int)", "tried(int,int,int,int,int)", "row(int,int,int)",
        "value(int,int)", "ofTrigger(int,int)", "journal(int,int)", "count(int)", "culprits(int,int,int,int)",
        "leastDepth(int,int,int,int)", "put(long)", "wipe()", "fault()", "carryOut()", "undo()", "save(int)",
        "restore(int)"};
    private static final String BANNED = "throw|throws|try|catch|finally|synchronized|assert|import|package|float|"
            + "volatile|transient|native|protected|Object|System\\.(?!arraycopy)|hashCode|toString|->|::|"
            + "[?]\\s*extends";
    private static final int LONGEST_METHOD = 60;

    private static int wrong = 0;

    public static void main(String[] args) throws IOException, IllegalAccessException {
        face();
        classes(TriggerStages.class);
        for (Class<?> inner : TriggerStages.class.getDeclaredClasses()) {
            due(inner + " is static", Modifier.isStatic(inner.getModifiers()));
            due(inner + " is not public", !Modifier.isPublic(inner.getModifiers()));
            classes(inner);
        }
        due("some twelve classes", TriggerStages.class.getDeclaredClasses().length <= 12);
        words();
        System.out.println(wrong == 0 ? "the language is kept" : wrong + " rules are broken");
        if (wrong != 0) {
            System.exit(1);
        }
    }

    private static void due(String what, boolean stands) {
        if (!stands) {
            wrong++;
            System.out.println("not so: " + what);
        }
    }

    private static void face() throws IllegalAccessException {
        Class<?> face = TriggerStages.class;
        due("the class is public and final", Modifier.isPublic(face.getModifiers())
                && Modifier.isFinal(face.getModifiers()));
        Set<String> constants = new TreeSet<>();
        for (Field field : face.getDeclaredFields()) {
            if (!Modifier.isPrivate(field.getModifiers())) {
                due(field + " is a public constant", field.getModifiers()
                        == (Modifier.PUBLIC | Modifier.STATIC | Modifier.FINAL) && field.getType() == int.class);
                constants.add(field.getName() + "=" + field.get(null));
            }
        }
        due("the constants: " + constants, constants.equals(new TreeSet<>(Set.of(CONSTANTS))));
        Set<String> methods = new TreeSet<>();
        Set<String> names = new TreeSet<>();
        for (Method method : face.getDeclaredMethods()) {
            if (!Modifier.isPrivate(method.getModifiers())) {
                String text = method.toString();
                due(text + " is public and answers an int", text.startsWith("public int TriggerStages."));
                methods.add(text.substring(text.lastIndexOf('.') + 1));
                names.add(method.getName());
            }
        }
        due("the methods: " + methods, methods.equals(new TreeSet<>(Set.of(METHODS))));
        for (Method method : face.getDeclaredMethods()) {
            due("no private " + method.getName(), !Modifier.isPrivate(method.getModifiers())
                    || !names.contains(method.getName()));
        }
        Constructor<?>[] constructors = face.getDeclaredConstructors();
        due("one public constructor", constructors.length == 1 && Modifier.isPublic(constructors[0].getModifiers())
                && constructors[0].getParameterCount() == 0);
    }

    private static void classes(Class<?> one) {
        int fields = 0;
        for (Field field : one.getDeclaredFields()) {
            if (Modifier.isStatic(field.getModifiers())) {
                due(field + " is final", Modifier.isFinal(field.getModifiers()));
            } else {
                fields++;
            }
        }
        due(one + " has some twenty fields", fields <= 20);
        for (Method method : one.getDeclaredMethods()) {
            due(method + " has at most seven parameters", method.getParameterCount() <= 7);
        }
    }

    private static void words() throws IOException {
        String source = Files.readString(SOURCE);
        due("only ASCII", source.chars().allMatch(sign -> sign < 128));
        String code = source.replaceAll("(?s)/\\*.*?\\*/", "").replaceAll("//[^\n]*", "");
        Matcher banned = Pattern.compile("(?<![A-Za-z])(" + BANNED + ")(?![A-Za-z])").matcher(code);
        while (banned.find()) {
            due("no " + banned.group(), false);
        }
        int from = -1;
        String[] lines = source.split("\n");
        for (int i = 0; i < lines.length; i++) {
            if (lines[i].matches(" +(\\w+ )*\\w+(\\[])* ?\\w*\\(.*\\) \\{")
                    && !lines[i].matches(" +(if|for|while|switch|\\}).*")) {
                from = i;
            } else if (lines[i].matches("( {4}| {8})}")) {
                due("a short method at line " + (from + 1), from < 0 || i - from < LONGEST_METHOD);
            }
        }
    }
}
