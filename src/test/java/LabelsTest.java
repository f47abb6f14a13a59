/** Promises 1 to 4: a new object, below, seal, label. */
public final class LabelsTest {
    private static final Due due = new Due();

    public static void main(String[] args) {
        newObject();
        below();
        sealing();
        sealFailures();
        label();
        due.end();
    }

    private static void newObject() {
        int[][] sizes = {{1, 1}, {3, 3}, {6, 6}, {0, 1}, {-5, 1}, {7, 6}, {Integer.MIN_VALUE, 1}, {Integer.MAX_VALUE, 6}};
        for (int[] size : sizes) {
            FlowChain x = new FlowChain(size[0]);
            due.is("n of FlowChain(" + size[0] + ")", size[1], () -> x.count(0));
            due.fails("label n of FlowChain(" + size[0] + ")", Due.ARGUMENT, () -> x.drain(size[1]));
            due.is("label n - 1 of FlowChain(" + size[0] + ")", 0, () -> x.drain(size[1] - 1));
        }
        FlowChain x = new FlowChain(3);
        int[] counts = {3, 0, 0, 0, 0, 0, 0, -1, -1};
        for (int what = 0; what < counts.length; what++) {
            int w = what;
            due.is("count(" + what + ") of a new object", counts[what], () -> x.count(w));
        }
        for (int a = 0; a < 3; a++) {
            for (int b = 0; b < 3; b++) {
                int p = a;
                int q = b;
                due.is("a new object has no pairs", a == b ? 1 : 0, () -> x.label(0, p, q));
            }
        }
        for (int i = 0; i <= 233; i++) {
            int at = i;
            due.is("value of a new object", 0, () -> x.value(at));
        }
        for (int name = 0; name < 26; name++) {
            int at = name;
            due.is("no FIXED VARIABLE", -1, () -> x.fix(at, false, -1));
            due.is("each ROW BOTTOM", -1, () -> x.fix(at, true, -1));
        }
        due.fails("no instruction", Due.ELEMENT, () -> x.instruction(0, false));
        due.fails("no output", Due.ELEMENT, () -> x.output(0, 0));
        due.fails("no map", Due.STATE, () -> x.map(0, 0));
        due.fails("no region", Due.STATE, () -> x.region(0, 0));
    }

    private static void below() {
        FlowChain x = new FlowChain(4);
        due.is("the same pair", 4, () -> x.below(2, 2));
        due.is("one pair", 5, () -> x.below(1, 2));
        due.is("one pair again", 5, () -> x.below(1, 2));
        due.is("another", 6, () -> x.below(0, 3));
        due.is("pairs lead on: 0 1, 0 2", 8, () -> x.below(0, 1));
        due.is("pairs lead on: 3 0, 3 1, 3 2", 11, () -> x.below(3, 0));
        due.is("a ring of all", 16, () -> x.below(2, 0));
        int[] bad = {-1, 4, Integer.MIN_VALUE, Integer.MAX_VALUE};
        for (int b : bad) {
            due.fails("below with a = " + b, Due.ARGUMENT, () -> x.below(b, 0));
            due.fails("below with b = " + b, Due.ARGUMENT, () -> x.below(0, b));
        }
        FlowChain y = Due.chain(2);
        due.fails("below when SEALED", Due.STATE, () -> y.below(0, 1));
        due.fails("below when SEALED, out of range", Due.ARGUMENT, () -> y.below(0, 2));
    }

    private static void sealing() {
        FlowChain one = new FlowChain(1);
        due.is("one label", 0, one::seal);
        due.is("SEALED", 1, () -> one.count(1));
        due.fails("seal again", Due.STATE, one::seal);
        FlowChain x = new FlowChain(3);
        x.below(2, 0);
        x.below(0, 1);
        due.is("BOTTOM of a chain 2, 0, 1", 2, x::seal);
        due.told("sealed", -1, -1, x);
        FlowChain five = new FlowChain(5);
        for (int middle = 0; middle < 3; middle++) {
            five.below(4, middle);
            five.below(middle, 3);
        }
        due.is("BOTTOM under three that are side by side", 4, five::seal);
        due.is("their JOIN", 3, () -> five.label(1, 0, 2));
        due.is("their MEET", 4, () -> five.label(2, 1, 2));
    }

    private static void sealFailures() {
        FlowChain x = new FlowChain(6);
        due.fails("nothing put", Due.UNSUPPORTED, x::seal);
        due.told("nothing put", 1, 7, x);
        x.below(5, 4);
        x.below(4, 5);
        due.fails("each below the other", Due.UNSUPPORTED, x::seal);
        due.told("each below the other comes before the lack of a JOIN", 45, 7, x);
        x.below(2, 3);
        x.below(3, 2);
        due.fails("two such pairs", Due.UNSUPPORTED, x::seal);
        due.told("the first such pair", 23, 7, x);
        due.is("not SEALED", 0, () -> x.count(1));

        FlowChain top = new FlowChain(3);
        top.below(0, 1);
        top.below(0, 2);
        due.fails("no JOIN of 1 and 2", Due.UNSUPPORTED, top::seal);
        due.told("no JOIN of 1 and 2", 12, 7, top);
        FlowChain ground = new FlowChain(3);
        ground.below(0, 2);
        ground.below(1, 2);
        due.fails("no MEET of 0 and 1", Due.UNSUPPORTED, ground::seal);
        due.told("no MEET of 0 and 1", 1, 7, ground);
        ground.below(0, 1);
        due.is("it can still be SEALED then", 0, ground::seal);
        due.told("then no failure is told", -1, -1, ground);
        due.fails("seal again", Due.STATE, ground::seal);
        due.told("which tells nothing new", -1, -1, ground);

        FlowChain bowtie = new FlowChain(6);
        int[][] pairs = {{0, 1}, {0, 2}, {1, 3}, {1, 4}, {2, 3}, {2, 4}, {3, 5}, {4, 5}};
        for (int[] pair : pairs) {
            bowtie.below(pair[0], pair[1]);
        }
        due.fails("two bounds, none the least", Due.UNSUPPORTED, bowtie::seal);
        due.told("two bounds, none the least", 12, 7, bowtie);
    }

    private static void label() {
        FlowChain open = new FlowChain(2);
        due.is("BELOW needs no seal", 0, () -> open.label(0, 0, 1));
        due.is("each is BELOW itself", 1, () -> open.label(0, 1, 1));
        due.fails("JOIN without a seal", Due.STATE, () -> open.label(1, 0, 1));
        due.fails("MEET without a seal", Due.STATE, () -> open.label(2, 0, 0));
        due.fails("out of range comes first", Due.ARGUMENT, () -> open.label(1, 0, 2));
        FlowChain x = Due.diamond();
        int[][] joins = {{0, 1, 2, 3}, {1, 1, 3, 3}, {2, 3, 2, 3}, {3, 3, 3, 3}};
        int[][] meets = {{0, 0, 0, 0}, {0, 1, 0, 1}, {0, 0, 2, 2}, {0, 1, 2, 3}};
        for (int a = 0; a < 4; a++) {
            for (int b = 0; b < 4; b++) {
                int p = a;
                int q = b;
                due.is("BELOW " + a + " " + b, joins[a][b] == b ? 1 : 0, () -> x.label(0, p, q));
                due.is("JOIN " + a + " " + b, joins[a][b], () -> x.label(1, p, q));
                due.is("MEET " + a + " " + b, meets[a][b], () -> x.label(2, p, q));
            }
        }
        int[][] bad = {{-1, 0, 0}, {3, 0, 0}, {0, -1, 0}, {0, 4, 0}, {1, 0, -1}, {2, 0, 4}, {Integer.MAX_VALUE, 0, 0}};
        for (int[] b : bad) {
            due.fails("label out of range", Due.ARGUMENT, () -> x.label(b[0], b[1], b[2]));
        }
    }
}
