import java.io.IOException;
import java.lang.reflect.Constructor;
import java.lang.reflect.Field;
import java.lang.reflect.Method;
import java.lang.reflect.Modifier;
import java.nio.file.Files;
import java.nio.file.Path;
import java.util.ArrayList;
import java.util.Arrays;
import java.util.Collections;
import java.util.List;
import java.util.regex.Matcher;
import java.util.regex.Pattern;

/** The public face, and those rules of LANGUAGE.md that can be seen from outside or in the text. */
public final class FaceTest {
    private static final Due due = new Due();

    private static final String ARGUMENT = "java.lang.IllegalArgumentException";
    private static final String STATE = "java.lang.IllegalStateException";
    private static final String ELEMENT = "java.util.NoSuchElementException";
    private static final String UNSUPPORTED = "java.lang.UnsupportedOperationException";
    private static final String BOUNDS = "java.lang.IndexOutOfBoundsException";

    private static final String[][] FACE = {
        {"int append(long, int)", ARGUMENT, BOUNDS},
        {"int below(int, int)", ARGUMENT, STATE},
        {"int clear()"},
        {"int code(int, int)", ARGUMENT, STATE},
        {"int compile()", STATE, ELEMENT, UNSUPPORTED, BOUNDS},
        {"int count(int)", ARGUMENT},
        {"int drain(int)", ARGUMENT},
        {"int feed(int, int)", ARGUMENT, STATE},
        {"int fix(int, boolean, int)", ARGUMENT},
        {"int instruction(int, boolean)", ELEMENT},
        {"int label(int, int, int)", ARGUMENT, STATE},
        {"int map(int, int)", ARGUMENT, STATE, ELEMENT},
        {"int output(int, int)", ARGUMENT, ELEMENT},
        {"int region(int, int)", ARGUMENT, STATE, ELEMENT, UNSUPPORTED},
        {"int run(int)", ARGUMENT, UNSUPPORTED},
        {"int seal()", STATE, UNSUPPORTED},
        {"int value(int)", ARGUMENT},
        {"int verify()", STATE, UNSUPPORTED},
        {"int walk(int)", ARGUMENT, UNSUPPORTED},
    };

    public static void main(String[] args) throws IOException {
        face();
        classesInside();
        text();
        due.end();
    }

    private static String written(Method m) {
        List<String> types = new ArrayList<>();
        for (Class<?> type : m.getParameterTypes()) {
            types.add(type.getName());
        }
        String thrown = "";
        for (Class<?> type : m.getExceptionTypes()) {
            thrown += " " + type.getName();
        }
        return m.getReturnType().getName() + " " + m.getName() + "(" + String.join(", ", types) + ")" + thrown;
    }

    private static List<String> faceDue() {
        List<String> calls = new ArrayList<>();
        for (String[] call : FACE) {
            calls.add(String.join(" ", call));
        }
        return calls;
    }

    private static boolean isNameOfFace(String name) {
        return Arrays.stream(FACE).anyMatch(call -> call[0].startsWith("int " + name + "("));
    }

    private static void face() {
        List<String> found = new ArrayList<>();
        for (Method m : FlowChain.class.getDeclaredMethods()) {
            if (Modifier.isPublic(m.getModifiers())) {
                found.add(written(m));
            } else {
                due.holds("private or made by the compiler: " + m, Modifier.isPrivate(m.getModifiers()) || m.isSynthetic());
                due.holds("no name of the face: " + m, !isNameOfFace(m.getName()));
            }
        }
        Collections.sort(found);
        due.holds("the face is " + found, found.equals(faceDue()));
        due.holds("a final public class", FlowChain.class.getModifiers() == (Modifier.PUBLIC | Modifier.FINAL));
        for (Field f : FlowChain.class.getDeclaredFields()) {
            due.holds("private: " + f, Modifier.isPrivate(f.getModifiers()));
        }
        Constructor<?>[] made = FlowChain.class.getDeclaredConstructors();
        due.holds("one public constructor", made.length == 1 && Modifier.isPublic(made[0].getModifiers()));
    }

    private static void classesInside() {
        Class<?>[] inside = FlowChain.class.getDeclaredClasses();
        due.holds("some twelve classes", inside.length + 1 <= 12);
        for (Class<?> c : inside) {
            due.holds("static, not public: " + c, Modifier.isStatic(c.getModifiers()) && !Modifier.isPublic(c.getModifiers()));
            int fields = 0;
            for (Field f : c.getDeclaredFields()) {
                fields += Modifier.isStatic(f.getModifiers()) ? 0 : 1;
                due.holds("static fields are final: " + f,
                        !Modifier.isStatic(f.getModifiers()) || Modifier.isFinal(f.getModifiers()));
            }
            due.holds("some twenty fields: " + c, fields <= 20);
            for (Method m : c.getDeclaredMethods()) {
                due.holds("seven parameters: " + m, m.getParameterCount() <= 7);
                due.holds("no name of the face: " + m, !isNameOfFace(m.getName()));
            }
        }
    }

    private static void text() throws IOException {
        String text = Files.readString(Path.of("src/main/java/FlowChain.java"));
        String code = text.replaceAll("(?s)/\\*.*?\\*/", "").replaceAll("//[^\n]*", "");
        String[] ruledOut = {"->", "::", "\\bfinally\\b", "\\bsynchronized\\b", "\\bassert\\b", "\\bprotected\\b",
            "Exact\\(", "\\bstatic \\{", "\\bpackage\\b", "\\bequals\\(", "hashCode", "toString", "Long\\.[A-Z]",
            "Integer\\.[A-Z]", "catch \\((?!NoSuchElementException|UnsupportedOperationException)", "\\[\\]\\[\\]\\[\\]",
            "import (?!java\\.util\\.Arrays;|java\\.util\\.NoSuchElementException;)", "while \\(true\\)", "for \\(;;\\)",
            "\"[^\"]*\" \\+", "\\+ \"", "[^\\x00-\\x7f]"};
        for (String pattern : ruledOut) {
            due.holds("not in the text: " + pattern, !Pattern.compile(pattern).matcher(code).find());
        }
        Matcher thrown = Pattern.compile("throw [^;]*;").matcher(code);
        while (thrown.find()) {
            due.holds(thrown.group(), thrown.group().matches("throw new (IllegalState|IllegalArgument|IndexOutOfBounds"
                    + "|Arithmetic|UnsupportedOperation|NoSuchElement|Runtime)Exception\\(\\);"));
        }
        int length = 0;
        for (String line : text.split("\n")) {
            length = line.matches("        [^ ].*[({]") || line.matches("    [^ ].*\\{") ? 0 : length + 1;
            boolean ends = line.equals("        }") || line.equals("    }");
            due.holds("a short method ends at: " + line, !ends || length <= 60 || line.equals("    }"));
        }
    }
}
