import java.io.IOException;
import java.lang.reflect.Constructor;
import java.lang.reflect.Field;
import java.lang.reflect.Method;
import java.lang.reflect.Modifier;
import java.nio.file.Files;
import java.nio.file.Path;
import java.util.ArrayList;
import java.util.Arrays;
import java.util.Collections;
import java.util.List;
import java.util.regex.Matcher;
import java.util.regex.Pattern;

/** The public face, and those rules of LANGUAGE.md that can be seen from outside or in the text. */
public final class FaceTest {
    private static final Due due = new Due();

    private static final String[] FACE = {
        "int append(long, int)", "int below(int, int)", "int clear()", "int code(int, int)", "int compile()",
        "int count(int)", "int drain(int)", "int feed(int, int)", "int fix(int, boolean, int)",
        "int instruction(int, boolean)", "int label(int, int, int)", "int map(int, int)", "int output(int, int)",
        "int region(int, int)", "int run(int)", "int seal()", "int value(int)", "int verify()", "int walk(int)",
    };

    public static void main(String[] args) throws IOException {
        face();
        classesInside();
        text();
        due.end();
    }

    private static String written(Method m) {
        List<String> types = new ArrayList<>();
        for (Class<?> type : m.getParameterTypes()) {
            types.add(type.getName());
        }
        return m.getReturnType().getName() + " " + m.getName() + "(" + String.join(", ", types) + ")";
    }

    private static void face() {
        List<String> found = new ArrayList<>();
        for (Method m : FlowChain.class.getDeclaredMethods()) {
            if (Modifier.isPublic(m.getModifiers())) {
                found.add(written(m));
            } else {
                due.holds("private or made by the compiler: " + m, Modifier.isPrivate(m.getModifiers()) || m.isSynthetic());
                due.holds("no name of the face: " + m, !Arrays.toString(FACE).contains(" " + m.getName() + "("));
            }
        }
        Collections.sort(found);
        due.holds("the face is " + found, found.equals(Arrays.asList(FACE)));
        due.holds("a final public class", FlowChain.class.getModifiers() == (Modifier.PUBLIC | Modifier.FINAL));
        for (Field f : FlowChain.class.getDeclaredFields()) {
            due.holds("private: " + f, Modifier.isPrivate(f.getModifiers()));
        }
        Constructor<?>[] made = FlowChain.class.getDeclaredConstructors();
        due.holds("one public constructor", made.length == 1 && Modifier.isPublic(made[0].getModifiers()));
    }

    private static void classesInside() {
        Class<?>[] inside = FlowChain.class.getDeclaredClasses();
        due.holds("some twelve classes", inside.length + 1 <= 12);
        for (Class<?> c : inside) {
            due.holds("static, not public: " + c, Modifier.isStatic(c.getModifiers()) && !Modifier.isPublic(c.getModifiers()));
            int fields = 0;
            for (Field f : c.getDeclaredFields()) {
                fields += Modifier.isStatic(f.getModifiers()) ? 0 : 1;
                due.holds("static fields are final: " + f,
                        !Modifier.isStatic(f.getModifiers()) || Modifier.isFinal(f.getModifiers()));
            }
            due.holds("some twenty fields: " + c, fields <= 20);
            for (Method m : c.getDeclaredMethods()) {
                due.holds("seven parameters: " + m, m.getParameterCount() <= 7);
                due.holds("no name of the face: " + m, !Arrays.toString(FACE).contains(" " + m.getName() + "("));
            }
        }
    }

    private static void text() throws IOException {
        String text = Files.readString(Path.of("src/main/java/FlowChain.java"));
        String code = text.replaceAll("(?s)/\\*.*?\\*/", "").replaceAll("//[^\n]*", "");
        String[] ruledOut = {"->", "::", "\\bfinally\\b", "\\bsynchronized\\b", "\\bassert\\b", "\\bprotected\\b",
            "Exact\\(", "\\bstatic \\{", "\\bpackage\\b", "\\bequals\\(", "hashCode", "toString", "Long\\.[A-Z]",
            "Integer\\.[A-Z]", "catch \\((?!NoSuchElementException|UnsupportedOperationException)", "\\[\\]\\[\\]\\[\\]",
            "import (?!java\\.util\\.Arrays;|java\\.util\\.NoSuchElementException;)", "while \\(true\\)", "for \\(;;\\)",
            "\"[^\"]*\" \\+", "\\+ \"", "[^\\x00-\\x7f]"};
        for (String pattern : ruledOut) {
            due.holds("not in the text: " + pattern, !Pattern.compile(pattern).matcher(code).find());
        }
        Matcher thrown = Pattern.compile("throw [^;]*;").matcher(code);
        while (thrown.find()) {
            due.holds(thrown.group(), thrown.group().matches("throw new (IllegalState|IllegalArgument|IndexOutOfBounds"
                    + "|Arithmetic|UnsupportedOperation|NoSuchElement|Runtime)Exception\\(\\);"));
        }
        int length = 0;
        for (String line : text.split("\n")) {
            length = line.matches("        [^ ].*[({]") || line.matches("    [^ ].*\\{") ? 0 : length + 1;
            boolean ends = line.equals("        }") || line.equals("    }");
            due.holds("a short method ends at: " + line, !ends || length <= 60 || line.equals("    }"));
        }
    }
}
