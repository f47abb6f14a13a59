import java.io.IOException;
import java.nio.file.Files;
import java.nio.file.Path;
import java.util.ArrayList;
import java.util.List;
import java.util.function.IntSupplier;

/** What README.md shows does what it says there: its lines are played, and each remark on an answer holds. */
public final class ReadmeTest {
    private static final Due due = new Due();
    private static final FlowChain chain = new FlowChain(2);
    /** The calls of README.md that were played, as they stand there. */
    private static final List<String> played = new ArrayList<>();

    public static void main(String[] args) throws IOException {
        played.add("FlowChain chain = new FlowChain(2);");
        compiledProgram();
        codeByHand();
        due.holds("the calls are those of README.md: " + played, played.equals(callsOfReadme()));
        due.end();
    }

    private static void compiledProgram() {
        is("chain.below(0, 1);", 3, () -> chain.below(0, 1));
        is("chain.seal();", 0, () -> chain.seal());
        played.add("chain.append(sign, 1);");
        for (char sign : "var s:1;in s:1;out 7:0;".toCharArray()) {
            chain.append(sign, 1);
        }
        is("chain.compile();", 5, () -> chain.compile());
        is("chain.verify();", 5, () -> chain.verify());
        is("chain.feed(1, 42);", 1, () -> chain.feed(1, 42));
        is("chain.run(600);", 0, () -> chain.run(600));
        is("chain.output(0, 0);", 7, () -> chain.output(0, 0));
        is("chain.value('s' - 'a');", 42, () -> chain.value('s' - 'a'));
        is("chain.walk(600);", 0, () -> chain.walk(600));
        is("chain.count(6);", 2, () -> chain.count(6));
    }

    private static void codeByHand() {
        is("chain.clear();", 5, () -> chain.clear());
        is("chain.fix(0, false, 0);", -1, () -> chain.fix(0, false, 0));
        is("chain.code(13, 1);", 0, () -> chain.code(13, 1));
        is("chain.code(2, 0);", 1, () -> chain.code(2, 0));
        is("chain.code(15, 0);", 2, () -> chain.code(15, 0));
        played.add("chain.verify();");
        due.fails("verify", Due.UNSUPPORTED, () -> chain.verify());
        is("chain.count(7);", 1, () -> chain.count(7));
        is("chain.count(8);", 6, () -> chain.count(8));
        is("chain.map(1, 28);", 1, () -> chain.map(1, 28));
    }

    private static void is(String call, int want, IntSupplier made) {
        played.add(call);
        due.is(call, want, made);
    }

    private static List<String> callsOfReadme() throws IOException {
        List<String> calls = new ArrayList<>();
        for (String line : Files.readAllLines(Path.of("README.md"))) {
            String call = line.replaceAll("//.*", "").trim();
            if (call.startsWith("chain.") || call.startsWith("FlowChain chain")) {
                calls.add(call);
            }
        }
        return calls;
    }
}
