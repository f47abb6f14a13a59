/** Sentences that name edges: of LABELS in the terms, and of promises 1 to 4. */
public final class EdgesOfLabelsTest {
    private static final Due due = new Due();

    public static void main(String[] args) {
        calls();
        labels();
        leading();
        joins();
        meets();
        sealable();
        bottoms();
        nearer();
        nothingYet();
        belowPuts();
        belowSealed();
        belowAnswers();
        sealAgain();
        sealPlaces();
        sealGoesOn();
        labelAnswers();
        labelNotSealed();
        due.end();
    }

    private static FlowChain with(int n, int... pairs) {
        FlowChain x = new FlowChain(n);
        for (int k = 0; k + 1 < pairs.length; k += 2) {
            x.below(pairs[k], pairs[k + 1]);
        }
        return x;
    }

    private static void calls() {
        due.sentence("An object is used for at most 512 calls after it has been made");
        FlowChain x = new FlowChain(2);
        x.below(0, 1);
        x.seal();
        for (int k = 0; k < 127; k++) {
            x.append(0x613d_612b_313bL, 6);
            x.compile();
            x.verify();
            x.walk(600);
        }
        due.is("the 511th", 5, () -> x.count(3));
        due.is("the 512th", 1, () -> x.value(0));
    }

    private static void labels() {
        due.sentence("LABELS 0 .. n - 1.");
        for (int n = 1; n <= 6; n++) {
            int last = n - 1;
            int over = n;
            FlowChain x = new FlowChain(n);
            due.is("below: the last one", n, () -> x.below(last, last));
            due.fails("below: n", Due.ARGUMENT, () -> x.below(over, 0));
            due.fails("below: n behind", Due.ARGUMENT, () -> x.below(0, over));
            due.fails("below: -1", Due.ARGUMENT, () -> x.below(-1, 0));
            due.fails("below: -1 behind", Due.ARGUMENT, () -> x.below(0, -1));
            due.is("label: the last one", 1, () -> x.label(0, last, last));
            due.fails("label: n", Due.ARGUMENT, () -> x.label(0, over, 0));
            due.fails("label: n behind", Due.ARGUMENT, () -> x.label(0, 0, over));
            due.is("fix: the last one", -1, () -> x.fix(0, false, last));
            due.is("fix: it was", last, () -> x.fix(0, false, -1));
            due.fails("fix: n", Due.ARGUMENT, () -> x.fix(0, false, over));
            due.fails("fix: n of a ROW", Due.ARGUMENT, () -> x.fix(0, true, over));
            due.is("feed: the last one", 1, () -> x.feed(last, 5));
            due.fails("feed: n", Due.ARGUMENT, () -> x.feed(over, 5));
            due.is("drain: the last one", 1, () -> x.drain(last));
            due.fails("drain: n", Due.ARGUMENT, () -> x.drain(over));
            due.fails("output: the last one", Due.ELEMENT, () -> x.output(last, 0));
            due.fails("output: n", Due.ARGUMENT, () -> x.output(over, 0));
        }
    }

    private static void leading() {
        due.sentence("a is BELOW b if they are the same or pairs lead from a to b, one after another.");
        int[][] orders = {{0, 1, 2, 3, 4}, {4, 3, 2, 1, 0}, {2, 0, 4, 1, 3}, {1, 3, 0, 2, 4}};
        for (int[] order : orders) {
            FlowChain x = new FlowChain(6);
            for (int a : order) {
                x.below(a, a + 1);
            }
            for (int a = 0; a < 6; a++) {
                for (int b = 0; b < 6; b++) {
                    int p = a;
                    int q = b;
                    due.is(a + " under " + b, a <= b ? 1 : 0, () -> x.label(0, p, q));
                }
            }
        }
        FlowChain ring = with(6, 0, 1, 1, 2, 2, 3, 3, 4, 4, 5);
        due.is("not the other way round", 0, () -> ring.label(0, 5, 0));
        due.is("five pairs one after another", 1, () -> ring.label(0, 0, 5));
        ring.below(5, 0);
        due.is("in a ring all are", 1, () -> ring.label(0, 5, 4));
        FlowChain two = with(4, 0, 1, 2, 3);
        due.is("pairs side by side lead nowhere else", 0, () -> two.label(0, 0, 3));
        two.below(1, 2);
        due.is("one between them does", 1, () -> two.label(0, 0, 3));
    }

    private static void joins() {
        due.sentence("JOIN of two: the one that both are BELOW and that is BELOW all that both are BELOW");
        FlowChain x = with(6, 5, 0, 5, 1, 0, 3, 1, 3, 3, 2, 2, 4);
        x.seal();
        due.is("the least of three that are above both", 3, () -> x.label(1, 0, 1));
        due.is("the other way round", 3, () -> x.label(1, 1, 0));
        due.is("one that is above the other", 4, () -> x.label(1, 0, 4));
        due.is("of the same", 1, () -> x.label(1, 1, 1));
        due.is("with BOTTOM", 0, () -> x.label(1, 5, 0));
        due.is("of the highest", 4, () -> x.label(1, 4, 4));
        FlowChain five = with(5, 0, 1, 1, 2, 0, 3, 2, 4, 3, 4);
        five.seal();
        due.is("of sides that are not as long", 4, () -> five.label(1, 1, 3));
        FlowChain bad = with(5, 0, 1, 0, 2, 1, 3, 2, 3, 1, 4, 2, 4);
        due.fails("two above both, none of them the least", Due.UNSUPPORTED, bad::seal);
        due.told("two above both", 12, 7, bad);
        FlowChain first = with(6, 4, 1, 4, 2, 1, 0, 2, 0, 1, 3, 2, 3, 0, 5, 3, 5);
        due.fails("0 is one of two above both", Due.UNSUPPORTED, first::seal);
        due.told("0 is one of two above both", 3, 7, first);
    }

    private static void meets() {
        due.sentence("MEET likewise the other way round.");
        FlowChain x = with(6, 4, 2, 2, 3, 3, 0, 3, 1, 0, 5, 1, 5);
        x.seal();
        due.is("the highest of three that are under both", 3, () -> x.label(2, 0, 1));
        due.is("one that is under the other", 4, () -> x.label(2, 0, 4));
        due.is("of the same", 1, () -> x.label(2, 1, 1));
        due.is("with the highest", 0, () -> x.label(2, 5, 0));
        FlowChain five = with(5, 0, 1, 1, 2, 0, 3, 2, 4, 3, 4);
        five.seal();
        due.is("of sides that are not as long", 0, () -> five.label(2, 2, 3));
        FlowChain bad = with(6, 0, 2, 0, 3, 1, 2, 1, 3, 2, 4, 3, 4, 5, 0, 5, 1);
        due.fails("two under both, none of them the highest", Due.UNSUPPORTED, bad::seal);
        due.told("0 and 1 have no JOIN", 1, 7, bad);
        FlowChain first = with(6, 5, 0, 5, 3, 0, 1, 0, 2, 3, 1, 3, 2, 1, 4, 2, 4);
        due.fails("0 is one of two under both", Due.UNSUPPORTED, first::seal);
        due.told("0 is one of two under both", 3, 7, first);
        FlowChain apart = with(6, 5, 0, 5, 3, 0, 1, 0, 2, 3, 1, 3, 2, 1, 4, 2, 4, 0, 3);
        due.is("none of them is left out", 5, apart::seal);
    }

    private static void sealable() {
        due.sentence("SEALED: no two are each BELOW the other one, any two have a JOIN and a MEET.");
        due.is("one alone", 0, with(1)::seal);
        due.is("one, put below itself", 0, with(1, 0, 0)::seal);
        due.fails("two apart", Due.UNSUPPORTED, with(2)::seal);
        due.fails("two, each below itself", Due.UNSUPPORTED, with(2, 0, 0, 1, 1)::seal);
        due.is("two", 1, with(2, 1, 0)::seal);
        due.fails("two, each below the other", Due.UNSUPPORTED, with(2, 1, 0, 0, 1)::seal);
        due.fails("three without a highest", Due.UNSUPPORTED, with(3, 0, 1, 0, 2)::seal);
        due.fails("three without a lowest", Due.UNSUPPORTED, with(3, 0, 2, 1, 2)::seal);
        due.fails("one by itself", Due.UNSUPPORTED, with(3, 0, 1)::seal);
        due.is("six side by side between two", 0, with(6, 0, 1, 0, 2, 0, 3, 0, 4, 1, 5, 2, 5, 3, 5, 4, 5)::seal);
        due.fails("a lattice with two of its middle each below the other", Due.UNSUPPORTED,
                with(4, 0, 1, 0, 2, 1, 3, 2, 3, 1, 2, 2, 1)::seal);
        due.fails("all in a ring", Due.UNSUPPORTED, with(3, 0, 1, 1, 2, 2, 0)::seal);
    }

    private static void bottoms() {
        due.sentence("BOTTOM is BELOW all.");
        for (int n = 1; n <= 6; n++) {
            for (int bottom = 0; bottom < n; bottom++) {
                FlowChain x = new FlowChain(n);
                for (int a = 0; a + 1 < n; a++) {
                    x.below((bottom + a) % n, (bottom + a + 1) % n);
                }
                due.is("the lowest of a chain", bottom, x::seal);
            }
        }
    }

    private static void nearer() {
        due.sentence("n 1 .. 6, else the nearer of them.");
        int[][] sizes = {{1, 1}, {2, 2}, {3, 3}, {4, 4}, {5, 5}, {6, 6}, {0, 1}, {-1, 1}, {7, 6}, {8, 6},
            {Integer.MIN_VALUE, 1}, {Integer.MAX_VALUE, 6}};
        for (int[] size : sizes) {
            FlowChain x = new FlowChain(size[0]);
            due.is("n for " + size[0], size[1], () -> x.count(0));
            due.is("pairs for " + size[0], size[1], () -> x.below(0, 0));
        }
    }

    private static void nothingYet() {
        due.sentence("No pairs, TEXT, PROGRAM, CODE, INPUT; nothing SEALED; no VARIABLE is FIXED,"
                + " and the LABEL of all ROWS is BOTTOM.");
        FlowChain x = new FlowChain(6);
        due.is("no pairs but the same", 6, () -> x.below(0, 0));
        due.is("no text", 0, () -> x.count(2));
        due.is("no PROGRAM", 0, () -> x.count(5));
        due.fails("nothing to walk over", Due.UNSUPPORTED, () -> x.walk(1));
        due.is("no CODE", 0, () -> x.count(3));
        due.is("none to clear", 0, x::clear);
        due.is("not SEALED", 0, () -> x.count(1));
        due.is("not VERIFIED", 0, () -> x.count(4));
        due.fails("nothing to run", Due.UNSUPPORTED, () -> x.run(1));
        for (int label = 0; label < 6; label++) {
            int l = label;
            due.is("no INPUT", 0, () -> x.drain(l));
            due.fails("no OUTPUT", Due.ELEMENT, () -> x.output(l, 0));
        }
        for (int name = 0; name < 26; name++) {
            int at = name;
            due.is("not FIXED", -1, () -> x.fix(at, false, -1));
            due.is("BOTTOM", -1, () -> x.fix(at, true, -1));
        }
        FlowChain y = with(2, 1, 0);
        y.seal();
        Due.coded(y, 0, 0, 3, 25, 15, 0);
        y.verify();
        due.is("a ROW is of BOTTOM, whichever that is", 1, () -> y.map(2, 28));
        due.is("a VARIABLE, too", 1, () -> y.map(0, 25));
    }

    private static void belowPuts() {
        due.sentence("A pair: a is BELOW b.");
        FlowChain x = new FlowChain(2);
        due.is("not before", 0, () -> x.label(0, 1, 0));
        due.is("put", 3, () -> x.below(1, 0));
        due.is("then", 1, () -> x.label(0, 1, 0));
        due.is("not the other way round", 0, () -> x.label(0, 0, 1));
        due.is("put again", 3, () -> x.below(1, 0));
    }

    private static void belowSealed() {
        due.sentence("SEALED: IllegalStateException.");
        FlowChain x = Due.chain(2);
        due.fails("a new pair", Due.STATE, () -> x.below(1, 0));
        due.fails("an old pair", Due.STATE, () -> x.below(0, 1));
        due.fails("the same", Due.STATE, () -> x.below(0, 0));
        due.is("nothing was put", 0, () -> x.label(0, 1, 0));
        FlowChain y = with(2);
        due.fails("a seal that fails", Due.UNSUPPORTED, y::seal);
        due.is("does not close it", 3, () -> y.below(0, 1));
    }

    private static void belowAnswers() {
        due.sentence("Answers how many pairs of LABELS (the same, too) are BELOW.");
        FlowChain x = new FlowChain(6);
        due.is("the least", 6, () -> x.below(3, 3));
        int[] answers = {7, 9, 12, 16, 21};
        for (int a = 0; a < 5; a++) {
            int p = a;
            due.is("a chain of " + (a + 2), answers[a], () -> x.below(p, p + 1));
        }
        due.is("what led there already", 21, () -> x.below(0, 5));
        due.is("the most", 36, () -> x.below(5, 0));
        due.is("one alone", 1, () -> new FlowChain(1).below(0, 0));
    }

    private static void sealAgain() {
        due.sentence("It is SEALED: IllegalStateException.");
        FlowChain x = new FlowChain(1);
        x.seal();
        due.fails("again", Due.STATE, x::seal);
        due.fails("and again", Due.STATE, x::seal);
        due.is("it is SEALED", 1, () -> x.count(1));
    }

    private static void place(String what, int place, FlowChain x) {
        due.fails(what, Due.UNSUPPORTED, x::seal);
        due.told(what, place, 7, x);
        due.is(what + ": not SEALED", 0, () -> x.count(1));
    }

    private static void sealPlaces() {
        due.sentence("PLACE is 10 a + b, KIND 7, of the first two LABELS a < b, by a, then b,"
                + " that are each BELOW the other one, or, if there are none, that have no JOIN or no MEET.");
        place("the first pair", 1, with(6));
        place("the last pair, each below the other", 45, with(6, 4, 5, 5, 4));
        place("the last pair without a JOIN", 45, with(6, 0, 1, 1, 2, 2, 3, 3, 4, 3, 5));
        place("by a before b", 5, with(6, 1, 2, 2, 1, 0, 5, 5, 0));
        place("then by b", 13, with(6, 1, 4, 4, 1, 1, 3, 3, 1));
        place("each below the other by a longer way", 2, with(6, 0, 4, 4, 2, 2, 0));
        place("a later one that is each below the other comes before the lack of a JOIN", 45, with(6, 5, 4, 4, 5));
        place("put with b before a", 12, with(4, 2, 1, 1, 2, 0, 1, 2, 3));
        place("no JOIN, but a MEET", 12, with(3, 0, 1, 0, 2));
        place("no MEET, but a JOIN", 12, with(3, 1, 0, 2, 0));
        place("no MEET of 0 and 3 comes before no JOIN of 1 and 2", 3, with(5, 0, 1, 0, 2, 3, 1, 3, 2, 4, 0));
        place("no MEET of 0 and 1 comes before no JOIN of 2 and 3", 1, with(4, 0, 2, 0, 3, 1, 2, 1, 3));
    }

    private static void sealGoesOn() {
        due.sentence("Else it is SEALED. Answers BOTTOM.");
        FlowChain x = new FlowChain(3);
        due.fails("not yet", Due.UNSUPPORTED, x::seal);
        x.below(2, 1);
        due.fails("not yet", Due.UNSUPPORTED, x::seal);
        due.told("the first two that have none", 1, 7, x);
        x.below(1, 0);
        due.is("now", 2, x::seal);
        due.is("SEALED", 1, () -> x.count(1));
        due.told("no fault any more", -1, -1, x);
    }

    private static void labelAnswers() {
        due.sentence("what 0: 1 if a is BELOW b, else 0; 1 JOIN, 2 MEET");
        FlowChain x = Due.diamond();
        due.is("BELOW", 1, () -> x.label(0, 0, 3));
        due.is("not the other way round", 0, () -> x.label(0, 3, 0));
        due.is("nor side by side", 0, () -> x.label(0, 1, 2));
        due.is("JOIN", 3, () -> x.label(1, 1, 2));
        due.is("MEET", 0, () -> x.label(2, 1, 2));
        due.fails("what -1", Due.ARGUMENT, () -> x.label(-1, 0, 0));
        due.fails("what 3", Due.ARGUMENT, () -> x.label(3, 0, 0));
        FlowChain one = new FlowChain(1);
        one.seal();
        due.is("one alone: BELOW", 1, () -> one.label(0, 0, 0));
        due.is("one alone: JOIN", 0, () -> one.label(1, 0, 0));
        due.is("one alone: MEET", 0, () -> one.label(2, 0, 0));
    }

    private static void labelNotSealed() {
        due.sentence("these if it is not SEALED: IllegalStateException.");
        FlowChain x = with(3, 0, 1, 0, 2);
        due.is("BELOW is told", 1, () -> x.label(0, 0, 2));
        due.fails("JOIN", Due.STATE, () -> x.label(1, 0, 1));
        due.fails("MEET", Due.STATE, () -> x.label(2, 0, 1));
        due.fails("seal fails", Due.UNSUPPORTED, x::seal);
        due.fails("JOIN then", Due.STATE, () -> x.label(1, 0, 0));
        due.fails("MEET then", Due.STATE, () -> x.label(2, 2, 2));
        due.is("BELOW then", 0, () -> x.label(0, 1, 2));
    }
}
