import java.util.Arrays;
import java.util.Map;
import java.util.Random;
import java.util.TreeMap;
import java.util.function.IntSupplier;

/** Many runs by chance, from given seeds: FlowChain answers each call as the plain Model does. */
public final class AgainstModelTest {
    private static final int RUNS = 400;
    private static int wrong = 0;
    /** Pairs that make lattices which are no chains; what is above n - 1 is put at n - 1. */
    private static final int[][][] SHAPES = {
        {{0, 1}, {0, 2}, {1, 3}, {2, 3}, {3, 4}, {4, 5}},
        {{0, 1}, {1, 2}, {1, 3}, {2, 4}, {3, 4}, {4, 5}},
        {{0, 1}, {0, 2}, {0, 3}, {0, 4}, {1, 5}, {2, 5}, {3, 5}, {4, 5}},
        {{0, 1}, {1, 2}, {0, 3}, {2, 4}, {3, 4}, {4, 5}},
        {{0, 1}, {1, 2}, {0, 3}, {3, 4}, {2, 5}, {4, 5}},
        {{0, 1}, {0, 2}, {1, 3}, {2, 3}, {2, 4}, {3, 5}, {4, 5}},
    };
    private static final Map<String, Integer> met = new TreeMap<>();

    private final int seed;
    private final Random chance;
    private final FlowChain real;
    private final Model model;
    private final int n;
    private final Programs programs;

    private AgainstModelTest(int seed) {
        this.seed = seed;
        chance = new Random(seed);
        int size = chance.nextInt(9) - 1;
        real = new FlowChain(size);
        model = new Model(size);
        n = model.n;
        programs = new Programs(chance, n);
    }

    public static void main(String[] args) {
        int runs = args.length > 0 ? Integer.parseInt(args[0]) : RUNS;
        int first = args.length > 1 ? Integer.parseInt(args[1]) : 1;
        for (int seed = first; seed < first + runs && wrong < 20; seed++) {
            new AgainstModelTest(seed).play();
        }
        System.out.println(met);
        for (String due : new String[] {"compile 8", "compile 9", "compile 10", "compile -1", "verify 1", "verify 2",
            "verify 3", "verify 4", "verify 5", "verify 6", "verify -1", "run 0", "run 1", "run 2", "run 3", "run 4",
            "walk 0", "walk 1", "walk 2", "walk 3", "walk 4", "seal 7", "seal -1", "next -1", "next before it", "next behind it"}) {
            if (!met.containsKey(due)) {
                wrong++;
                System.out.println("never met: " + due);
            }
        }
        System.out.println(wrong == 0 ? "all answers are as the model's" : wrong + " answers are not as the model's");
        System.exit(wrong == 0 ? 0 : 1);
    }

    private static String outcome(IntSupplier call) {
        try {
            return String.valueOf(call.getAsInt());
        } catch (RuntimeException e) {
            return e.getClass().getName();
        }
    }

    private String same(String call, int a, int b, IntSupplier mine, IntSupplier due) {
        String got = outcome(mine);
        String want = outcome(due);
        if (!got.equals(want)) {
            wrong++;
            System.out.println("seed " + seed + ": " + call + "(" + a + ", " + b + ") answered " + got + ", due is " + want
                    + ", with " + listing());
        }
        return want;
    }

    private String same(String call, IntSupplier mine, IntSupplier due) {
        String got = outcome(mine);
        String want = outcome(due);
        if (!got.equals(want)) {
            wrong++;
            System.out.println("seed " + seed + ": " + call + " answered " + got + ", due is " + want);
        }
        return want;
    }

    private void meet(String what) {
        met.merge(what, 1, Integer::sum);
    }

    private void counts(String behind) {
        for (int what = 0; what <= 8; what++) {
            int w = what;
            same("count of it behind " + behind, w, 0, () -> real.count(w), () -> model.count(w));
        }
    }

    private void play() {
        order();
        for (int k = 0; k < 12; k++) {
            step();
        }
    }

    private void order() {
        int[] shuffled = new int[n];
        for (int i = 0; i < n; i++) {
            int j = chance.nextInt(i + 1);
            shuffled[i] = shuffled[j];
            shuffled[j] = i;
        }
        for (int k = chance.nextInt(3) == 0 ? 40 : 0; k > 0; k--) {
            any();
        }
        int[][] shape = SHAPES[chance.nextInt(SHAPES.length)];
        boolean isShaped = chance.nextInt(3) > 0 && n > 3;
        for (int k = 0; isShaped && k < shape.length; k++) {
            int low = shuffled[Math.min(n - 1, shape[k][0])];
            int high = shuffled[Math.min(n - 1, shape[k][1])];
            same("below(" + low + ", " + high + ")", () -> real.below(low, high), () -> model.below(low, high));
        }
        if (isShaped) {
            seal();
        }
        for (int tries = 0; tries < 30 && model.count(1) == 0; tries++) {
            int a = chance.nextInt(n);
            int b = chance.nextInt(n);
            boolean wild = chance.nextInt(60) == 0;
            int low = shuffled[wild ? Math.max(a, b) : Math.min(a, b)];
            int high = shuffled[wild ? Math.min(a, b) : Math.max(a, b)];
            same("below(" + low + ", " + high + ")", () -> real.below(low, high), () -> model.below(low, high));
            if (chance.nextInt(4) == 0) {
                seal();
            }
        }
        for (int i = 0; i + 1 < n; i++) {
            int low = shuffled[i];
            int high = shuffled[i + 1];
            same("below", () -> real.below(low, high), () -> model.below(low, high));
        }
        seal();
        for (int what = -1; what <= 3; what++) {
            for (int a = -1; a <= n; a++) {
                for (int b = -1; b <= n; b++) {
                    int w = what;
                    int p = a;
                    int q = b;
                    same("label(" + w + ", " + p + ", " + q + ")", () -> real.label(w, p, q), () -> model.label(w, p, q));
                }
            }
        }
    }

    private void seal() {
        same("seal()", real::seal, model::seal);
        meet("seal " + model.count(8));
        counts("seal()");
    }

    private void step() {
        switch (chance.nextInt(9)) {
            case 8:
            case 0:
            case 1:
            case 2: compile(); break;
            case 3:
            case 4: handMade(); break;
            case 5: feedSome(); break;
            default:
                for (int k = 0; k < 10; k++) {
                    any();
                }
        }
        if (chance.nextInt(3) > 0) {
            verify();
        }
        perform();
    }

    private void addText(String text) {
        int at = 0;
        while (at < text.length()) {
            int size = Math.min(text.length() - at, 1 + chance.nextInt(8));
            long v = chance.nextLong();
            for (int k = 0; k < size; k++) {
                v = v << 8 | text.charAt(at + k);
            }
            long packed = v;
            same("append(" + packed + ", " + size + ")", () -> real.append(packed, size), () -> model.append(packed, size));
            at += size;
        }
    }

    private void compile() {
        String text = programs.text();
        addText(text);
        same("compile() of " + text, real::compile, model::compile);
        meet("compile " + model.count(8));
        counts("compile() of " + text);
        instructions();
    }

    private void instructions() {
        for (int i = -1; i <= model.count(3); i++) {
            int at = i;
            same("instruction", at, 0, () -> real.instruction(at, false), () -> model.instruction(at, false));
            same("instruction", at, 1, () -> real.instruction(at, true), () -> model.instruction(at, true));
        }
    }

    private void handMade() {
        if (chance.nextInt(6) > 0) {
            same("clear()", real::clear, model::clear);
        }
        for (int[] pair : programs.code()) {
            same("code(" + pair[0] + ", " + pair[1] + ")", () -> real.code(pair[0], pair[1]), () -> model.code(pair[0], pair[1]));
        }
        int most = chance.nextInt(5);
        for (int k = chance.nextInt(2) * chance.nextInt(6); k > 0; k--) {
            int name = chance.nextInt(most + 1);
            boolean row = chance.nextBoolean();
            int label = chance.nextInt(n + 1) - 1;
            same("fix(" + name + ", " + row + ", " + label + ")", () -> real.fix(name, row, label), () -> model.fix(name, row, label));
        }
        counts("code");
    }

    private void feedSome() {
        for (int k = chance.nextInt(25); k > 0; k--) {
            int label = chance.nextInt(n + 2) - 1;
            int v = chance.nextInt(3) == 0 ? chance.nextInt() : chance.nextInt(9);
            same("feed(" + label + ")", () -> real.feed(label, v), () -> model.feed(label, v));
        }
    }

    private void verify() {
        String due = same("verify() of " + listing(), real::verify, model::verify);
        meet("verify " + (due.endsWith("StateException") ? due : model.count(8)));
        counts("verify()");
        boolean hasMaps = model.maps != null;
        int size = hasMaps ? model.count(3) : 1;
        for (int i = -1; i <= size; i++) {
            for (int what = -1; what <= 58; what++) {
                int at = i;
                int w = what;
                same("map", at, w, () -> real.map(at, w), () -> model.map(at, w));
            }
            for (int q = -2; q <= 64; q++) {
                int at = i;
                int w = q;
                String found = same("region", at, w, () -> real.region(at, w), () -> model.region(at, w));
                if (q == -1) {
                    boolean isBack = found.matches("[0-9]+") && Integer.parseInt(found) < at;
                    meet("next " + (isBack ? "before it" : found.matches("[0-9]+") ? "behind it" : found));
                }
            }
        }
    }

    private String listing() {
        StringBuilder made = new StringBuilder();
        for (int[] pair : model.code) {
            made.append(Arrays.toString(pair));
        }
        return made.append(" fixed ").append(Arrays.toString(model.fixed)).append(Arrays.toString(model.rows)).toString();
    }

    private void perform() {
        int fuel = chance.nextInt(4) == 0 ? chance.nextInt(602) : 600;
        if (chance.nextBoolean()) {
            meet("run " + same("run(" + fuel + ") of " + listing(), () -> real.run(fuel), () -> model.run(fuel)));
            results("run");
        }
        if (chance.nextBoolean()) {
            meet("walk " + same("walk(" + fuel + ") of " + listing(), () -> real.walk(fuel), () -> model.walk(fuel)));
            results("walk");
        }
    }

    private void results(String behind) {
        counts(behind);
        for (int i = -1; i <= 234; i++) {
            int at = i;
            same("value", at, 0, () -> real.value(at), () -> model.value(at));
        }
        for (int label = -1; label <= n; label++) {
            for (int i = -1; i <= 20; i++) {
                int l = label;
                int at = i;
                same("output", l, at, () -> real.output(l, at), () -> model.output(l, at));
            }
        }
    }

    private int odd() {
        int[] some = {-1, 0, 1, 2, 5, 6, 25, 26, 63, 64, Integer.MIN_VALUE, Integer.MAX_VALUE};
        return chance.nextInt(3) == 0 ? some[chance.nextInt(some.length)] : chance.nextInt(6);
    }

    private void any() {
        int a = odd();
        int b = odd();
        int c = odd();
        boolean flag = chance.nextBoolean();
        long v = chance.nextInt(3) == 0 ? chance.nextLong() : 0x613d613b203b2020L;
        switch (chance.nextInt(20)) {
            case 0: same("below(" + a + ", " + b + ")", () -> real.below(a, b), () -> model.below(a, b)); break;
            case 1: same("label", () -> real.label(a, b, c), () -> model.label(a, b, c)); break;
            case 2: same("append(" + v + ", " + a + ")", () -> real.append(v, a), () -> model.append(v, a)); break;
            case 3: same("code(" + a + ", " + b + ")", () -> real.code(a, b), () -> model.code(a, b)); break;
            case 4: same("fix(" + a + ", " + flag + ", " + b + ")", () -> real.fix(a, flag, b), () -> model.fix(a, flag, b)); break;
            case 5: same("clear()", real::clear, model::clear); break;
            case 6: same("verify()", real::verify, model::verify); break;
            case 7: same("map(" + a + ", " + b + ")", () -> real.map(a, b), () -> model.map(a, b)); break;
            case 8: same("region(" + a + ", " + b + ")", () -> real.region(a, b), () -> model.region(a, b)); break;
            case 9: same("feed(" + a + ", " + b + ")", () -> real.feed(a, b), () -> model.feed(a, b)); break;
            case 10: same("drain(" + a + ")", () -> real.drain(a), () -> model.drain(a)); break;
            case 11: same("run(" + a + ")", () -> real.run(a), () -> model.run(a)); break;
            case 12: same("walk(" + a + ")", () -> real.walk(a), () -> model.walk(a)); break;
            case 13: same("output(" + a + ", " + b + ")", () -> real.output(a, b), () -> model.output(a, b)); break;
            case 14: same("value(" + a + ")", () -> real.value(a), () -> model.value(a)); break;
            case 15: same("instruction(" + a + ")", () -> real.instruction(a, flag), () -> model.instruction(a, flag)); break;
            case 16: same("count(" + a + ")", () -> real.count(a), () -> model.count(a)); break;
            case 17: same("compile()", real::compile, model::compile); break;
            case 18: same("seal()", real::seal, model::seal); break;
            default: compile(); break;
        }
        counts("a call by chance");
    }
}
