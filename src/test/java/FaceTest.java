import java.lang.reflect.Constructor;
import java.lang.reflect.Field;
import java.lang.reflect.Method;
import java.lang.reflect.Modifier;
import java.nio.file.Files;
import java.nio.file.Path;
import java.util.List;
import java.util.Set;
import java.util.TreeSet;
import java.util.regex.Matcher;
import java.util.regex.Pattern;

/** The public face, and those rules of the language that can be read from the source. */
public final class FaceTest {
    private static final Checks CHECKS = new Checks();
    private static final Set<String> FACE = Set.of("void feed 5", "int end 1", "int read 1", "int look 2", "int voice 3", "long name 2",
        "long event 4", "int pitch 5", "long note 4", "int lines 2", "long line 3", "int x 3", "int perform 1", "int stroke 3", "int file 1",
        "int out 1", "int again 0", "int open 0", "int track 1", "long sound 2", "int down 1", "int play 2", "int sample 3", "long moment 3",
        "int fault 3", "long follows 4", "int shape 8");

    public static void main(String[] args) throws Exception {
        face();
        classesInside();
        source();
        CHECKS.finish();
    }

    private static void face() {
        Set<String> found = new TreeSet<>();
        for (Method method : StaveHouse.class.getDeclaredMethods()) {
            boolean open = Modifier.isPublic(method.getModifiers());
            CHECKS.due(method + " is public or private", open || Modifier.isPrivate(method.getModifiers()) ? 1 : 0, 1);
            if (open) {
                found.add(method.getReturnType() + " " + method.getName() + " " + method.getParameterCount());
                for (Class<?> type : method.getParameterTypes()) {
                    CHECKS.due(method + " takes int", type == int.class ? 1 : 0, 1);
                }
            }
        }
        CHECKS.dueText("the face", found.toString(), new TreeSet<>(FACE).toString());
        for (Field field : StaveHouse.class.getDeclaredFields()) {
            boolean right = Modifier.isPrivate(field.getModifiers()) || field.getName().equals("NONE");
            CHECKS.due(field + " is private", right ? 1 : 0, 1);
        }
        Constructor<?>[] constructors = StaveHouse.class.getDeclaredConstructors();
        CHECKS.due("constructors", constructors.length, 1);
        CHECKS.due("public", Modifier.isPublic(constructors[0].getModifiers()) ? 1 : 0, 1);
        int modifiers = StaveHouse.class.getModifiers();
        CHECKS.due("public and final", Modifier.isPublic(modifiers) && Modifier.isFinal(modifiers) ? 1 : 0, 1);
    }

    private static void classesInside() {
        Class<?>[] inside = StaveHouse.class.getDeclaredClasses();
        CHECKS.due("some twelve classes", inside.length <= 12 ? 1 : 0, 1);
        for (Class<?> one : inside) {
            CHECKS.due(one + " is static", Modifier.isStatic(one.getModifiers()) ? 1 : 0, 1);
            int fields = 0;
            for (Field field : one.getDeclaredFields()) {
                boolean constant = Modifier.isStatic(field.getModifiers());
                CHECKS.due(field + " is final, if static", !constant || Modifier.isFinal(field.getModifiers()) ? 1 : 0, 1);
                fields += constant ? 0 : 1;
            }
            CHECKS.due(one + " has some twenty fields", fields <= 22 ? 1 : 0, 1);
            for (Method method : one.getDeclaredMethods()) {
                boolean taken = false;
                for (String face : FACE) {
                    taken |= face.split(" ")[1].equals(method.getName());
                }
                CHECKS.due(method + " has a name of its own", taken ? 1 : 0, 0);
                CHECKS.due(method + " takes seven at most", method.getParameterCount() <= 7 ? 1 : 0, 1);
            }
        }
    }

    private static void source() throws Exception {
        String source = Files.readString(Path.of("src/main/java/StaveHouse.java"));
        String code = source.replaceAll("(?s)/\\*.*?\\*/", "").replaceAll("//[^\n]*", "");
        Matcher words = Pattern.compile("\\b(throw|throws|try|catch|synchronized|assert|import|package|native|double|float|Exact)\\b|->|::")
            .matcher(code);
        while (words.find()) {
            CHECKS.due("the source has " + words.group(), 1, 0);
        }
        List<String> lines = source.lines().toList();
        Pattern head = Pattern.compile("( {4}| {8})((private|public|static|final) )*[\\w\\[\\]]+( \\w+)?\\([^;]*\\) \\{");
        for (int i = 0; i < lines.size(); i++) {
            Matcher matcher = head.matcher(lines.get(i));
            if (matcher.matches()) {
                int end = i;
                while (!lines.get(end).equals(matcher.group(1) + "}")) {
                    end++;
                }
                CHECKS.due(lines.get(i).strip() + " is short", end - i < 60 ? 1 : 0, 1);
            }
        }
    }
}
