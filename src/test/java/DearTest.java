/** The dearest programs and codes that the limits leave: each call still ends soon, with the answer that is due. */
public final class DearTest {
    private static final int MOST_SIGNS = 240;
    /** A while that takes two rounds each time it is come to, as x has another label behind its BLOCK. */
    private static final String TWICE = "while1{x=0;";
    private static final Due due = new Due();

    public static void main(String[] args) {
        manyDos();
        whilesInWhiles();
        lateFlow();
        labelsAgainstTheCode();
        roundAndRound();
        due.end();
    }

    /** Each PROC does the one before it as often as given, so that the last one is done many thousand times. */
    private static void manyDos() {
        for (int often = 2; often <= 6; often++) {
            StringBuilder text = new StringBuilder("proc a{}");
            char last = 'a';
            while (text.length() + 8 + 5 * often + 5 <= MOST_SIGNS) {
                text.append("proc ").append((char) (last + 1)).append('{');
                text.append(Due.times("do " + last + ";", often)).append('}');
                last++;
            }
            text.append("do ").append(last).append(';');
            FlowChain x = Due.put(Due.chain(2), text.toString());
            due.is("nothing is done, " + often + " times each", 1, x::compile);
            due.is("HALT alone", 1, x::verify);
            due.is("the machine has nothing to do", 0, () -> x.run(1));
            due.is("the walker has not the FUEL for it", 3, () -> x.walk(600));
            due.is("all of it is taken", 600, () -> x.count(6));
        }
    }

    private static void whilesInWhiles() {
        String inner = "var s:1;proc a{" + TWICE + "x=s;}}proc b{" + Due.times(TWICE, 7) + "do a;" + Due.times("}", 8);
        FlowChain x = Due.put(Due.chain(2), inner + Due.times(TWICE, 7) + "do b;" + Due.times("}", 7));
        due.fails("15 whiles within one another", Due.BOUNDS, x::compile);
        due.told("15 whiles", 64, 10, x);
        FlowChain y = Due.put(Due.chain(2), inner + Due.times(TWICE, 7) + "do b;" + Due.times("}", 7) + "out x:1;");
        due.fails("x has 1 behind them, as it may", Due.BOUNDS, y::compile);
        String bad = inner + Due.times(TWICE, 6) + "do b;" + Due.times("}", 6) + "out x:0;";
        FlowChain z = Due.put(Due.chain(2), bad);
        due.fails("x has 1 behind them, as it may not", Due.UNSUPPORTED, z::compile);
        due.told("behind the whiles", bad.indexOf("out x"), 9, z);
    }

    /** A LABEL that needs a round of the while for each VARIABLE that it goes through. */
    private static void lateFlow() {
        StringBuilder text = new StringBuilder("var z:1;while1{out a:0;");
        for (char v = 'a'; v < 'y'; v++) {
            text.append(v).append('=').append((char) (v + 1)).append(';');
        }
        FlowChain x = Due.put(Due.chain(2), text + "y=z;}");
        due.fails("it comes to a in round 26", Due.UNSUPPORTED, x::compile);
        due.told("the out", 15, 9, x);
        FlowChain y = Due.put(Due.chain(2), text + "y=1;}");
        due.is("nothing comes", 2 + 2 + 2 * 25 + 1 + 1, y::compile);
    }

    /** STORES in the order against which the LABEL goes: one more round of the loop for each VARIABLE. */
    private static void labelsAgainstTheCode() {
        FlowChain x = Due.chain(6);
        for (int v = 0; v < 25; v++) {
            x.code(1, v + 1);
            x.code(2, v);
        }
        Due.coded(x, 13, 5, 2, 25, 1, 0, 14, 5, 1, 0, 11, 0, 15, 0);
        due.is("all can be reached", 57, x::verify);
        due.is("LABEL 5 comes to a", 5, () -> x.map(0, 0));
        due.is("to z", 5, () -> x.map(0, 25));
        due.is("and to the LEVEL", 5, () -> x.map(0, 26));
        due.is("not behind the loop", 0, () -> x.map(56, 26));
        due.is("NEXT", 56, () -> x.region(55, -1));
        x.feed(5, 7);
        due.is("the 7 needs more rounds than there is FUEL for", 3, () -> x.run(600));
    }

    private static void roundAndRound() {
        FlowChain x = Due.coded(Due.chain(1), 12, 0);
        due.is("a GOTO to itself", 1, x::verify);
        due.is("has no end", 3, () -> x.run(600));
        due.is("but that of the FUEL", 600, () -> x.count(6));
        FlowChain y = Due.compiled(Due.chain(1), "while1{while1{while1{}}}");
        due.is("whiles", 3, () -> y.walk(600));
        due.is("all FUEL", 600, () -> y.count(6));
        FlowChain z = Due.coded(Due.chain(1));
        for (int i = 0; i < 64; i++) {
            z.code(12, (i + 37) % 64);
        }
        due.is("GOTOS through all", 64, z::verify);
        due.is("round and round", 3, () -> z.run(600));
    }
}
