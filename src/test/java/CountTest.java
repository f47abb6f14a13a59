/** Promise 20: count; and what a call that throws leaves as it was. */
public final class CountTest {
    private static final Due due = new Due();

    public static void main(String[] args) {
        limits();
        counts();
        placeAndKind();
        due.end();
    }

    private static void limits() {
        FlowChain x = new FlowChain(2);
        int[] bad = {-1, 9, Integer.MIN_VALUE, Integer.MAX_VALUE};
        for (int what : bad) {
            due.fails("count " + what, Due.ARGUMENT, () -> x.count(what));
        }
    }

    private static void all(String what, FlowChain x, int... counts) {
        for (int k = 0; k < counts.length; k++) {
            int at = k;
            due.is(what + ": count " + k, counts[k], () -> x.count(at));
        }
    }

    private static void counts() {
        FlowChain x = new FlowChain(2);
        all("new", x, 2, 0, 0, 0, 0, 0, 0, -1, -1);
        x.below(0, 1);
        x.seal();
        all("sealed", x, 2, 1, 0, 0, 0, 0, 0, -1, -1);
        Due.put(x, "a=1;out a:1;");
        all("text", x, 2, 1, 12, 0, 0, 0, 0, -1, -1);
        x.compile();
        all("compiled", x, 2, 1, 0, 5, 0, 1, 0, -1, -1);
        x.verify();
        all("verified", x, 2, 1, 0, 5, 1, 1, 0, -1, -1);
        x.run(3);
        all("run", x, 2, 1, 0, 5, 1, 1, 3, -1, -1);
        x.walk(600);
        all("walk", x, 2, 1, 0, 5, 1, 1, 2, -1, -1);
        x.code(2, 0);
        all("code", x, 2, 1, 0, 6, 0, 0, 2, -1, -1);
        due.fails("verify", Due.UNSUPPORTED, x::verify);
        all("not verified", x, 2, 1, 0, 6, 0, 0, 2, 5, 2);
        x.clear();
        all("clear", x, 2, 1, 0, 0, 0, 0, 2, 5, 2);
    }

    private static void placeAndKind() {
        FlowChain x = new FlowChain(2);
        due.fails("compile without a seal", Due.STATE, x::compile);
        due.fails("verify without a seal", Due.STATE, x::verify);
        due.told("IllegalStateException tells nothing", -1, -1, x);
        due.fails("seal", Due.UNSUPPORTED, x::seal);
        due.told("seal", 1, 7, x);
        due.fails("compile without a seal", Due.STATE, x::compile);
        due.fails("verify without a seal", Due.STATE, x::verify);
        due.told("it stays", 1, 7, x);
        x.below(0, 1);
        due.told("below leaves it", 1, 7, x);
        x.seal();
        due.told("seal", -1, -1, x);
        Due.put(x, "a");
        due.fails("SYNTAX", Due.ELEMENT, x::compile);
        due.told("SYNTAX", 1, 8, x);
        due.fails("seal again", Due.STATE, x::seal);
        due.fails("verify without CODE", Due.STATE, x::verify);
        due.told("both leave it", 1, 8, x);
        x.code(15, 0);
        x.fix(0, false, 1);
        due.told("code and fix leave it", 1, 8, x);
        x.verify();
        due.told("verify", -1, -1, x);
        Due.put(x, "var a:1;out a:0;");
        due.fails("FLOW", Due.UNSUPPORTED, x::compile);
        due.told("FLOW", 8, 9, x);
        x.run(1);
        due.told("run leaves it", 8, 9, x);
        x.compile();
        due.told("compile", -1, -1, x);
    }
}
