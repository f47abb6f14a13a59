import java.util.Arrays;
import java.util.EnumSet;
import java.util.List;
import java.util.Set;
import java.util.function.Supplier;
import java.util.function.ToIntFunction;

/**
 * Calls that are refused: two objects are made alike, one of them refuses the call, and then both are
 * asked for the same things. Each thing is asked of new objects, since most questions change them.
 */
final class Refused {
    /** What can be asked of an object, in less than 400 calls. */
    enum Thing { COUNTS, TEXT_LENGTH, VERIFIED, TOLD, ORDER, SEALING, TEXT, CODE, MARKS, MAPS, REGIONS, INPUTS, RESULTS, RUN, WALK }

    private static final int[] SOME = {0, 1, 2, 3, 17, 25, 26, 27, 28, 29, 57};

    private final Due due;

    Refused(Due due) {
        this.due = due;
    }

    /** The call throws that, and changes nothing but the things that are named. */
    void leaves(String what, Class<? extends RuntimeException> want, Supplier<FlowChain> make,
            ToIntFunction<FlowChain> call, Thing... but) {
        Set<Thing> changed = EnumSet.noneOf(Thing.class);
        changed.addAll(Arrays.asList(but));
        for (Thing thing : Thing.values()) {
            FlowChain x = make.get();
            due.fails(what, want, () -> call.applyAsInt(x));
            if (!changed.contains(thing)) {
                due.same(what + ", then " + thing, ask(thing, make.get()), ask(thing, x));
            }
        }
    }

    private static String ask(Thing thing, FlowChain x) {
        switch (thing) {
            case COUNTS: return counts(x, 0, 1, 3, 5, 6);
            case TEXT_LENGTH: return counts(x, 2);
            case VERIFIED: return counts(x, 4);
            case TOLD: return counts(x, 7, 8);
            case ORDER: return order(x);
            case SEALING: return sealing(x);
            case TEXT: return text(x);
            case CODE: return code(x);
            case MARKS: return marks(x);
            case MAPS: return maps(x);
            case REGIONS: return regions(x);
            case INPUTS: return inputs(x);
            case RESULTS: return results(x);
            case RUN: return doing(x, true);
            default: return doing(x, false);
        }
    }

    private static String counts(FlowChain x, int... which) {
        StringBuilder made = new StringBuilder();
        for (int what : which) {
            made.append(x.count(what)).append(' ');
        }
        return made.toString();
    }

    private static String order(FlowChain x) {
        StringBuilder made = new StringBuilder();
        for (int what = 0; what <= 2; what++) {
            for (int a = 0; a < x.count(0); a++) {
                for (int b = 0; b < x.count(0); b++) {
                    int w = what;
                    int p = a;
                    int q = b;
                    made.append(Due.outcome(() -> x.label(w, p, q))).append(' ');
                }
            }
        }
        return made.toString();
    }

    private static String sealing(FlowChain x) {
        int last = x.count(0) - 1;
        boolean wasSealed = x.count(1) == 1;
        String outcome = Due.outcome(() -> x.below(last, last)) + ' ' + Due.outcome(x::seal) + ' ' + counts(x, 1);
        return wasSealed ? outcome : outcome + counts(x, 7, 8);
    }

    /** A chain of all, if it is not SEALED yet. */
    private static void close(FlowChain x) {
        for (int a = 0; a + 1 < x.count(0) && x.count(1) == 0; a++) {
            x.below(a, a + 1);
        }
        Due.outcome(x::seal);
    }

    private static String text(FlowChain x) {
        close(x);
        return Due.outcome(x::compile) + ' ' + counts(x, 7, 8) + code(x);
    }

    private static String code(FlowChain x) {
        StringBuilder made = new StringBuilder();
        for (int i = 0; i <= x.count(3); i++) {
            int at = i;
            made.append(Due.outcome(() -> x.instruction(at, false))).append(' ');
            made.append(Due.outcome(() -> x.instruction(at, true))).append(' ');
        }
        return made.toString();
    }

    private static String marks(FlowChain x) {
        StringBuilder made = new StringBuilder();
        for (int name = 0; name < 26; name++) {
            made.append(x.fix(name, false, -1)).append(' ').append(x.fix(name, true, -1)).append(' ');
        }
        return made.toString();
    }

    private static String maps(FlowChain x) {
        StringBuilder made = new StringBuilder();
        for (int i = 0; i <= Math.min(20, x.count(3)); i++) {
            for (int what : SOME) {
                int at = i;
                made.append(Due.outcome(() -> x.map(at, what))).append(' ');
            }
        }
        return made.toString();
    }

    private static String regions(FlowChain x) {
        StringBuilder made = new StringBuilder();
        for (int i = 0; i <= Math.min(12, x.count(3)); i++) {
            for (int q = -1; q <= Math.min(16, x.count(3)); q++) {
                int at = i;
                int w = q;
                made.append(Due.outcome(() -> x.region(at, w))).append(' ');
            }
        }
        return made.toString();
    }

    /** How many there are, what they are, and that they are still there behind that. */
    private static String inputs(FlowChain x) {
        close(x);
        x.clear();
        int n = x.count(0);
        for (int v = 0; v < 3 * n; v++) {
            x.code(13, v % n);
            x.code(2, v);
        }
        x.code(15, 0);
        x.verify();
        x.run(600);
        StringBuilder made = new StringBuilder();
        for (int v = 0; v < 3 * n; v++) {
            made.append(x.value(v)).append(' ');
        }
        for (int label = 0; label < n; label++) {
            made.append(x.drain(label)).append(' ');
        }
        return made.toString();
    }

    private static String results(FlowChain x) {
        StringBuilder made = new StringBuilder();
        for (int i = 0; i <= 233; i++) {
            made.append(x.value(i)).append(' ');
        }
        for (int label = 0; label < x.count(0); label++) {
            for (int i = 0; i <= 20; i++) {
                int l = label;
                int at = i;
                made.append(Due.outcome(() -> x.output(l, at))).append(' ');
            }
        }
        return made.toString();
    }

    private static String doing(FlowChain x, boolean runs) {
        StringBuilder made = new StringBuilder();
        for (int fuel : List.of(600, 5)) {
            made.append(Due.outcome(() -> runs ? x.run(fuel) : x.walk(fuel))).append(' ').append(x.count(6)).append(' ');
            for (int i : SOME) {
                made.append(x.value(i)).append(' ');
            }
            made.append(Due.outcome(() -> x.output(0, 0))).append(' ');
        }
        return made.toString();
    }
}
