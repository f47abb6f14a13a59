import java.util.ArrayList;
import java.util.List;
import java.util.function.Supplier;
import java.util.function.ToIntFunction;

/** Each way in which a call can be refused: what it throws then, which of two faults it tells, and that it changes nothing. */
public final class EdgesOfRefusalsTest {
    private static final Due due = new Due();
    private static final Refused refused = new Refused(due);
    private static final int LEAST = Integer.MIN_VALUE;
    private static final int MOST = Integer.MAX_VALUE;

    public static void main(String[] args) {
        due.sentence("What is thrown, in this order: IllegalArgumentException: a number out of range; then as the call says.");
        outOfRangeInAnyState();
        outOfRangeBeforeAllElse();
        stateBeforeElement();
        elementBeforeUnsupported();
        due.sentence("A call that throws changes nothing, but as said.");
        argumentsLeaveAll();
        statesLeaveAll();
        elementsLeaveAll();
        unsupportedLeaveAll();
        boundsLeaveAll();
        due.sentence("but as said");
        sealTells();
        compileTells();
        verifyTells();
        due.end();
    }

    /** Not SEALED, with something of all that can be there then. */
    private static FlowChain open() {
        FlowChain x = new FlowChain(4);
        x.below(0, 2);
        x.below(1, 2);
        Due.put(x, "b=a;in c:1;");
        Due.coded(x, 0, 7, 2, 0, 15, 9);
        x.fix(2, false, 3);
        x.fix(3, true, 1);
        x.feed(0, 11);
        x.feed(3, 12);
        Due.outcome(x::seal);
        return x;
    }

    /** SEALED, with a PROGRAM that is VERIFIED and has been run, a text, and a fault told. */
    private static FlowChain full() {
        FlowChain x = Due.diamond();
        Due.compiled(x, "var a:1;row r:2;in a:1;if a{b=3;}r[2]=5;out 4:0;out 6:3;");
        x.verify();
        x.feed(1, 21);
        x.feed(1, 22);
        x.feed(2, 23);
        x.run(600);
        Due.put(x, "a=1;)");
        Due.outcome(x::compile);
        Due.put(x, "var d:2;d=1;out d:3;");
        return x;
    }

    /** KIND 6: maps, but not VERIFIED. */
    private static FlowChain leaking() {
        FlowChain x = Due.coded(Due.diamond(), 13, 1, 11, 4, 0, 5, 14, 0, 15, 0, 11, 5, 12, 5);
        x.fix(1, false, 2);
        Due.outcome(x::verify);
        return x;
    }

    private static FlowChain crammed() {
        FlowChain x = Due.chain(2);
        for (int k = 0; k < 20; k++) {
            x.feed(1, k);
        }
        for (int k = 0; k < 63; k++) {
            x.code(k % 2 == 0 ? 0 : 2, k % 26);
        }
        x.code(15, 0);
        Due.put(x, Due.times("a=1;    ", 29) + "b=2;");
        x.verify();
        return x;
    }

    private static final class Case {
        final String what;
        final ToIntFunction<FlowChain> call;

        Case(String what, ToIntFunction<FlowChain> call) {
            this.what = what;
            this.call = call;
        }
    }

    /** Each number of each call, a little and very far out of its range. */
    private static List<Case> outOfRange() {
        List<Case> all = new ArrayList<>();
        int[] noLabels = {-1, 4, 6, LEAST, MOST};
        for (int l : noLabels) {
            all.add(new Case("below(" + l + ", 0)", x -> x.below(l, 0)));
            all.add(new Case("below(0, " + l + ")", x -> x.below(0, l)));
            for (int what = 0; what <= 2; what++) {
                int w = what;
                all.add(new Case("label(" + w + ", " + l + ", 0)", x -> x.label(w, l, 0)));
                all.add(new Case("label(" + w + ", 0, " + l + ")", x -> x.label(w, 0, l)));
            }
            all.add(new Case("feed(" + l + ", 0)", x -> x.feed(l, 0)));
            all.add(new Case("drain(" + l + ")", x -> x.drain(l)));
            all.add(new Case("output(" + l + ", 0)", x -> x.output(l, 0)));
        }
        int[] noMarks = {-2, 4, 6, LEAST, MOST};
        for (int l : noMarks) {
            all.add(new Case("fix(0, false, " + l + ")", x -> x.fix(0, false, l)));
            all.add(new Case("fix(0, true, " + l + ")", x -> x.fix(0, true, l)));
        }
        each(all, "label's what", new int[] {-1, 3, LEAST, MOST}, (x, i) -> x.label(i, 0, 0));
        each(all, "append's n", new int[] {-1, 0, 9, LEAST, MOST}, (x, i) -> x.append(0x6161_6161_6161_6161L, i));
        each(all, "append's sign", new int[] {0, 31, 127, 128, 255, 9, 10}, (x, i) -> x.append(i, 1));
        each(all, "code's operation", new int[] {-1, 16, LEAST, MOST}, (x, i) -> x.code(i, 0));
        each(all, "fix's name", new int[] {-1, 26, LEAST, MOST}, (x, i) -> x.fix(i, false, 0));
        each(all, "fix's name of a ROW", new int[] {-1, 26, LEAST, MOST}, (x, i) -> x.fix(i, true, 0));
        each(all, "map's i", new int[] {-1, 58, LEAST, MOST}, (x, i) -> x.map(0, i));
        each(all, "region's q", new int[] {-2, 64, LEAST, MOST}, (x, i) -> x.region(0, i));
        each(all, "run's fuel", new int[] {-1, 0, 601, LEAST, MOST}, (x, i) -> x.run(i));
        each(all, "walk's fuel", new int[] {-1, 0, 601, LEAST, MOST}, (x, i) -> x.walk(i));
        each(all, "output's i", new int[] {-1, LEAST}, (x, i) -> x.output(0, i));
        each(all, "value's i", new int[] {-1, 234, LEAST, MOST}, (x, i) -> x.value(i));
        each(all, "count's what", new int[] {-1, 9, LEAST, MOST}, (x, i) -> x.count(i));
        return all;
    }

    private interface Numbered {
        int on(FlowChain x, int i);
    }

    private static void each(List<Case> all, String what, int[] numbers, Numbered call) {
        for (int i : numbers) {
            all.add(new Case(what + " " + i, x -> call.on(x, i)));
        }
    }

    private static List<Supplier<FlowChain>> states() {
        List<Supplier<FlowChain>> all = new ArrayList<>();
        all.add(() -> new FlowChain(4));
        all.add(EdgesOfRefusalsTest::open);
        all.add(EdgesOfRefusalsTest::full);
        all.add(EdgesOfRefusalsTest::leaking);
        return all;
    }

    private static void outOfRangeInAnyState() {
        for (Supplier<FlowChain> state : states()) {
            for (Case c : outOfRange()) {
                FlowChain x = state.get();
                due.fails(c.what, Due.ARGUMENT, () -> c.call.applyAsInt(x));
            }
        }
    }

    /** Where a number is out of range and the call would be refused for something else, too. */
    private static void outOfRangeBeforeAllElse() {
        FlowChain sealed = Due.chain(2);
        due.fails("below, SEALED", Due.ARGUMENT, () -> sealed.below(0, 2));
        due.fails("below, SEALED, the other one", Due.ARGUMENT, () -> sealed.below(-1, 0));
        FlowChain open = new FlowChain(2);
        due.fails("JOIN, not SEALED", Due.ARGUMENT, () -> open.label(1, 2, 0));
        due.fails("MEET, not SEALED", Due.ARGUMENT, () -> open.label(2, 0, -1));
        FlowChain crammed = crammed();
        due.fails("append of a wrong sign to a full text", Due.ARGUMENT, () -> crammed.append(0x6161_6161_6161_611fL, 8));
        due.fails("append of nine signs to a full text", Due.ARGUMENT, () -> crammed.append(0x6161_6161_6161_6161L, 9));
        due.fails("code, 64 are there", Due.ARGUMENT, () -> crammed.code(16, 0));
        due.fails("feed, 20 are there in the other", Due.ARGUMENT, () -> crammed.feed(2, 0));
        due.fails("map without a VERIFYING", Due.ARGUMENT, () -> open.map(0, 58));
        due.fails("map of no INSTRUCTION", Due.ARGUMENT, () -> crammed.map(64, -1));
        due.fails("region without a VERIFYING", Due.ARGUMENT, () -> open.region(0, 64));
        due.fails("region of no INSTRUCTION", Due.ARGUMENT, () -> crammed.region(64, -2));
        due.fails("region of no ZERO", Due.ARGUMENT, () -> crammed.region(0, 64));
        due.fails("run, not VERIFIED", Due.ARGUMENT, () -> open.run(0));
        due.fails("walk, no PROGRAM", Due.ARGUMENT, () -> open.walk(601));
        due.fails("output, none there", Due.ARGUMENT, () -> open.output(2, 0));
        due.fails("output, none there, i below 0", Due.ARGUMENT, () -> open.output(0, -1));
    }

    private static void stateBeforeElement() {
        FlowChain x = Due.coded(Due.chain(2), 15, 0);
        int[] none = {-1, 1, 63, 64, LEAST, MOST};
        for (int i : none) {
            due.fails("map of INSTRUCTION " + i, Due.STATE, () -> x.map(i, 0));
            due.fails("region of INSTRUCTION " + i, Due.STATE, () -> x.region(i, -1));
        }
        due.fails("region with a q that is not there", Due.STATE, () -> x.region(0, 1));
        due.fails("region of no ZERO", Due.STATE, () -> x.region(0, 0));
    }

    private static void elementBeforeUnsupported() {
        FlowChain x = Due.coded(Due.chain(2), 15, 0, 11, 0, 15, 0);
        x.verify();
        due.fails("no ZERO, q not there", Due.ELEMENT, () -> x.region(0, 3));
        FlowChain one = Due.coded(Due.chain(2), 15, 0);
        one.verify();
        due.fails("no ZERO, q 1 of 1", Due.ELEMENT, () -> one.region(0, 1));
        due.fails("no ZERO, q 0 of 1", Due.UNSUPPORTED, () -> one.region(0, 0));
        due.fails("no HEIGHT, q not there", Due.ELEMENT, () -> x.region(1, 63));
        due.fails("no ZERO, q there", Due.UNSUPPORTED, () -> x.region(0, 2));
        due.fails("no HEIGHT, q there", Due.UNSUPPORTED, () -> x.region(1, 2));
    }

    private static void argumentsLeaveAll() {
        List<Case> all = outOfRange();
        List<Supplier<FlowChain>> states = states();
        for (int k = 0; k < all.size(); k++) {
            refused.leaves(all.get(k).what, Due.ARGUMENT, states.get(1 + k % 3), all.get(k).call);
        }
    }

    private static void statesLeaveAll() {
        refused.leaves("below, SEALED", Due.STATE, EdgesOfRefusalsTest::full, x -> x.below(3, 0));
        refused.leaves("seal again", Due.STATE, EdgesOfRefusalsTest::full, FlowChain::seal);
        refused.leaves("JOIN, not SEALED", Due.STATE, EdgesOfRefusalsTest::open, x -> x.label(1, 0, 1));
        refused.leaves("MEET, not SEALED", Due.STATE, EdgesOfRefusalsTest::open, x -> x.label(2, 0, 0));
        refused.leaves("compile, not SEALED", Due.STATE, EdgesOfRefusalsTest::open, FlowChain::compile);
        refused.leaves("code, 64 are there", Due.STATE, EdgesOfRefusalsTest::crammed, x -> x.code(0, 0));
        refused.leaves("verify, not SEALED", Due.STATE, EdgesOfRefusalsTest::open, FlowChain::verify);
        refused.leaves("verify, no CODE", Due.STATE, EdgesOfRefusalsTest::cleared, FlowChain::verify);
        refused.leaves("map, not VERIFIED", Due.STATE, EdgesOfRefusalsTest::open, x -> x.map(0, 0));
        refused.leaves("map, nothing there", Due.STATE, EdgesOfRefusalsTest::cleared, x -> x.map(0, 0));
        refused.leaves("region, not VERIFIED", Due.STATE, EdgesOfRefusalsTest::open, x -> x.region(0, -1));
        refused.leaves("feed, 20 are there", Due.STATE, EdgesOfRefusalsTest::crammed, x -> x.feed(1, 77));
    }

    private static FlowChain cleared() {
        FlowChain x = full();
        x.clear();
        x.fix(4, true, 2);
        return x;
    }

    private static void elementsLeaveAll() {
        int[] none = {-1, 64, LEAST, MOST};
        for (int i : none) {
            refused.leaves("map of INSTRUCTION " + i, Due.ELEMENT, EdgesOfRefusalsTest::full, x -> x.map(i, 0));
            refused.leaves("region of INSTRUCTION " + i, Due.ELEMENT, EdgesOfRefusalsTest::leaking, x -> x.region(i, 0));
            refused.leaves("instruction " + i, Due.ELEMENT, EdgesOfRefusalsTest::full, x -> x.instruction(i, true));
        }
        refused.leaves("region with q 7 of 7", Due.ELEMENT, EdgesOfRefusalsTest::leaking, x -> x.region(1, 7));
        refused.leaves("output behind the last", Due.ELEMENT, EdgesOfRefusalsTest::full, x -> x.output(0, 1));
        refused.leaves("output of none", Due.ELEMENT, EdgesOfRefusalsTest::full, x -> x.output(1, 0));
        refused.leaves("output far behind", Due.ELEMENT, EdgesOfRefusalsTest::full, x -> x.output(3, MOST));
    }

    private static void unsupportedLeaveAll() {
        refused.leaves("region of no ZERO", Due.UNSUPPORTED, EdgesOfRefusalsTest::leaking, x -> x.region(0, -1));
        refused.leaves("region of no HEIGHT", Due.UNSUPPORTED, EdgesOfRefusalsTest::leaking, x -> x.region(5, 0));
        refused.leaves("run, KIND 6", Due.UNSUPPORTED, EdgesOfRefusalsTest::leaking, x -> x.run(600));
        refused.leaves("run, not VERIFIED", Due.UNSUPPORTED, EdgesOfRefusalsTest::open, x -> x.run(1));
        refused.leaves("run, no CODE", Due.UNSUPPORTED, EdgesOfRefusalsTest::cleared, x -> x.run(600));
        refused.leaves("walk, no PROGRAM", Due.UNSUPPORTED, EdgesOfRefusalsTest::cleared, x -> x.walk(600));
        refused.leaves("walk, CODE alone", Due.UNSUPPORTED, EdgesOfRefusalsTest::crammed, x -> x.walk(1));
    }

    private static void boundsLeaveAll() {
        for (int n = 5; n <= 8; n++) {
            int size = n;
            refused.leaves("append of " + n + " to 236", Due.BOUNDS, EdgesOfRefusalsTest::crammed,
                    x -> x.append(0x6363_6363_6363_6363L, size));
        }
    }

    private static void sealTells() {
        refused.leaves("seal", Due.UNSUPPORTED, EdgesOfRefusalsTest::beforeSeal, FlowChain::seal, Refused.Thing.TOLD);
        FlowChain x = beforeSeal();
        due.fails("seal", Due.UNSUPPORTED, x::seal);
        due.told("seal", 1, 7, x);
    }

    private static FlowChain beforeSeal() {
        FlowChain x = open();
        x.below(2, 3);
        return x;
    }

    private static void compileTells() {
        Refused.Thing[] said = {Refused.Thing.TEXT_LENGTH, Refused.Thing.TEXT, Refused.Thing.TOLD};
        refused.leaves("SYNTAX", Due.ELEMENT, () -> Due.put(full(), "row q:1;a"), FlowChain::compile, said);
        refused.leaves("SYNTAX at once", Due.ELEMENT, () -> Due.put(leaking(), "."), FlowChain::compile, said);
        refused.leaves("FLOW", Due.UNSUPPORTED, () -> Due.put(full(), "out d:0;"), FlowChain::compile, said);
        refused.leaves("FLOW behind row", Due.UNSUPPORTED, () -> Due.put(leaking(), "row q:1;in a:3;q[0]=a;"),
                FlowChain::compile, said);
        refused.leaves("TOO LONG", Due.BOUNDS, () -> Due.put(full(), Due.times("a=1;", 35)), FlowChain::compile, said);
        refused.leaves("TOO LONG, crammed", Due.BOUNDS, EdgesOfRefusalsTest::crammedText, FlowChain::compile, said);
        String[] texts = {"a", "var h:1;out h:0;", Due.times("a=1;", 35)};
        int[][] told = {{1, 8}, {8, 9}, {64, 10}};
        for (int k = 0; k < texts.length; k++) {
            FlowChain x = Due.put(Due.chain(2), texts[k]);
            due.holds("it throws", Due.outcome(x::compile).contains("Exception"));
            due.told("compile", told[k][0], told[k][1], x);
            due.is("THE TEXT is empty", 0, () -> x.count(2));
            Due.put(x, "b=2;");
            due.is("and what comes then stands alone", 3, x::compile);
            due.code("alone", x, 0, 2, 2, 1, 15, 0);
        }
    }

    private static FlowChain crammedText() {
        FlowChain x = crammed();
        Due.outcome(x::compile);
        return Due.put(x, Due.times("a=1;", 35));
    }

    private static void verifyTells() {
        Refused.Thing[] said = {Refused.Thing.VERIFIED, Refused.Thing.TOLD, Refused.Thing.MAPS, Refused.Thing.REGIONS,
            Refused.Thing.RUN};
        int[][] codes = {
            {13, 4, 15, 0}, {15, 0, 0, 0}, {5, 0, 15, 0}, {0, 1, 12, 0}, {0, 0, 11, 1, 15, 0}, {13, 3, 14, 1, 15, 0},
        };
        int[][] told = {{0, 1}, {1, 2}, {0, 3}, {1, 4}, {1, 5}, {1, 6}};
        for (int k = 0; k < codes.length; k++) {
            int[] pairs = codes[k];
            Supplier<FlowChain> make = () -> Due.coded(cleared(), pairs);
            refused.leaves("KIND " + (k + 1), Due.UNSUPPORTED, make, FlowChain::verify, said);
            FlowChain x = make.get();
            due.fails("KIND " + (k + 1), Due.UNSUPPORTED, x::verify);
            due.told("KIND " + (k + 1), told[k][0], told[k][1], x);
            due.is("nothing is VERIFIED", 0, () -> x.count(4));
            due.fails("no run", Due.UNSUPPORTED, () -> x.run(600));
            due.is("the CODE stays", pairs.length / 2, () -> x.count(3));
        }
    }
}
