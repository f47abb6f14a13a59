import java.util.NoSuchElementException;
import java.util.function.IntSupplier;

/** Compares what calls answer with what is due, and tells each that differs. */
final class Due {
    static final Class<IllegalArgumentException> ARGUMENT = IllegalArgumentException.class;
    static final Class<IllegalStateException> STATE = IllegalStateException.class;
    static final Class<IndexOutOfBoundsException> BOUNDS = IndexOutOfBoundsException.class;
    static final Class<NoSuchElementException> ELEMENT = NoSuchElementException.class;
    static final Class<UnsupportedOperationException> UNSUPPORTED = UnsupportedOperationException.class;

    private int asked;
    private int wrong;
    private String sentence = "";

    /** What the document says: the answers that follow are due by it. */
    void sentence(String words) {
        sentence = words + " | ";
    }

    static String outcome(IntSupplier call) {
        try {
            return String.valueOf(call.getAsInt());
        } catch (RuntimeException e) {
            return e.getClass().getName();
        }
    }

    private void compare(String what, String want, IntSupplier call) {
        String got = outcome(call);
        asked++;
        if (!got.equals(want)) {
            wrong++;
            System.out.println(sentence + what + ": answered " + got + ", due is " + want);
        }
    }

    void same(String what, String want, String got) {
        asked++;
        if (!got.equals(want)) {
            wrong++;
            System.out.println(sentence + what + ": told " + got + ", due is " + want);
        }
    }

    void is(String what, int want, IntSupplier call) {
        compare(what, String.valueOf(want), call);
    }

    void fails(String what, Class<? extends RuntimeException> want, IntSupplier call) {
        compare(what, want.getName(), call);
    }

    void holds(String what, boolean whether) {
        compare(what, "1", () -> whether ? 1 : 0);
    }

    /** PLACE and KIND. */
    void told(String what, int place, int kind, FlowChain x) {
        is(what + ": PLACE", place, () -> x.count(7));
        is(what + ": KIND", kind, () -> x.count(8));
    }

    /** The CODE, as pairs of operation and x. */
    void code(String what, FlowChain x, int... pairs) {
        is(what + ": INSTRUCTIONS", pairs.length / 2, () -> x.count(3));
        for (int k = 0; k < pairs.length; k++) {
            int at = k;
            is(what + (k % 2 == 0 ? ": operation " : ": x ") + k / 2, pairs[k], () -> x.instruction(at / 2, at % 2 == 1));
        }
    }

    void end() {
        System.out.println(wrong == 0 ? asked + " answers are as due" : wrong + " of " + asked + " answers are not as due");
        System.exit(wrong == 0 ? 0 : 1);
    }

    /** Labels 0 .. n - 1, each below the next one. */
    static FlowChain chain(int n) {
        FlowChain x = new FlowChain(n);
        for (int a = 0; a + 1 < n; a++) {
            x.below(a, a + 1);
        }
        x.seal();
        return x;
    }

    /** 0 below 1 and 2, which are below 3. */
    static FlowChain diamond() {
        FlowChain x = new FlowChain(4);
        x.below(0, 1);
        x.below(0, 2);
        x.below(1, 3);
        x.below(2, 3);
        x.seal();
        return x;
    }

    static FlowChain put(FlowChain x, String text) {
        for (int at = 0; at < text.length(); at += 8) {
            int n = Math.min(8, text.length() - at);
            long v = 0;
            for (int k = 0; k < n; k++) {
                v = v << 8 | text.charAt(at + k);
            }
            x.append(v, n);
        }
        return x;
    }

    static FlowChain compiled(FlowChain x, String text) {
        put(x, text).compile();
        return x;
    }

    static FlowChain coded(FlowChain x, int... pairs) {
        for (int k = 0; k + 1 < pairs.length; k += 2) {
            x.code(pairs[k], pairs[k + 1]);
        }
        return x;
    }

    static String times(String part, int count) {
        return part.repeat(count);
    }
}
