/** Promises 7 to 9: code, fix, clear. */
public final class CodeTest {
    private static final Due due = new Due();

    public static void main(String[] args) {
        code();
        codeForgets();
        fix();
        fixForgets();
        clear();
        due.end();
    }

    private static void code() {
        FlowChain x = new FlowChain(2);
        int[] bad = {-1, 16, Integer.MIN_VALUE, Integer.MAX_VALUE};
        for (int operation : bad) {
            due.fails("operation " + operation, Due.ARGUMENT, () -> x.code(operation, 0));
        }
        due.is("none yet", 0, () -> x.count(3));
        for (int i = 0; i < 64; i++) {
            int at = i;
            due.is("its number", i, () -> x.code(at % 16, at * 1000003 - 20000000));
        }
        due.fails("64 are there", Due.STATE, () -> x.code(15, 0));
        due.fails("64 are there, out of range", Due.ARGUMENT, () -> x.code(16, 0));
        due.is("still 64", 64, () -> x.count(3));
        for (int i = 0; i < 64; i++) {
            int at = i;
            due.is("operation", i % 16, () -> x.instruction(at, false));
            due.is("x", i * 1000003 - 20000000, () -> x.instruction(at, true));
        }
    }

    private static FlowChain verified() {
        FlowChain x = Due.compiled(Due.chain(2), "var b:1;row c:1;a=1;");
        x.verify();
        due.is("VERIFIED", 1, () -> x.count(4));
        due.is("PROGRAM", 1, () -> x.count(5));
        due.is("maps", 1, () -> x.map(0, 1));
        return x;
    }

    private static void nothingLeft(String what, FlowChain x) {
        due.is(what + ": not VERIFIED", 0, () -> x.count(4));
        due.is(what + ": no PROGRAM", 0, () -> x.count(5));
        due.fails(what + ": no run", Due.UNSUPPORTED, () -> x.run(9));
        due.fails(what + ": no walk", Due.UNSUPPORTED, () -> x.walk(9));
        due.fails(what + ": no maps", Due.STATE, () -> x.map(0, 1));
        due.fails(what + ": no regions", Due.STATE, () -> x.region(0, 0));
    }

    private static void allLeft(String what, FlowChain x) {
        due.is(what + ": VERIFIED", 1, () -> x.count(4));
        due.is(what + ": PROGRAM", 1, () -> x.count(5));
        due.is(what + ": maps", 1, () -> x.map(0, 1));
    }

    private static void codeForgets() {
        FlowChain x = verified();
        due.fails("out of range", Due.ARGUMENT, () -> x.code(16, 0));
        allLeft("out of range", x);
        due.is("behind the compiled ones", 3, () -> x.code(12, 3));
        nothingLeft("code", x);
        due.code("it is put behind", x, 0, 1, 2, 0, 15, 0, 12, 3);
        due.is("it can be VERIFIED", 3, x::verify);
        due.is("and run", 0, () -> x.run(9));
        due.fails("but there is no PROGRAM", Due.UNSUPPORTED, () -> x.walk(9));
        due.is("FIXED stays", 1, () -> x.map(0, 1));
    }

    private static void fix() {
        FlowChain x = new FlowChain(3);
        due.is("a VARIABLE", -1, () -> x.fix(0, false, 2));
        due.is("again", 2, () -> x.fix(0, false, 0));
        due.is("off", 0, () -> x.fix(0, false, -1));
        due.is("off again", -1, () -> x.fix(0, false, -1));
        due.is("a ROW is another thing", -1, () -> x.fix(0, true, 1));
        due.is("and stays", 1, () -> x.fix(0, true, 2));
        due.is("the last name", -1, () -> x.fix(25, true, 0));
        due.is("the last name's VARIABLE", -1, () -> x.fix(25, false, 1));
        due.is("the last name's ROW", 0, () -> x.fix(25, true, -1));
        due.is("BOTTOM", -1, () -> x.fix(25, true, -1));
        int[][] bad = {{-1, 0}, {26, 0}, {0, -2}, {0, 3}, {Integer.MIN_VALUE, 0}, {0, Integer.MIN_VALUE}, {0, Integer.MAX_VALUE}};
        for (int[] b : bad) {
            due.fails("fix " + b[0] + " " + b[1], Due.ARGUMENT, () -> x.fix(b[0], false, b[1]));
            due.fails("fix row " + b[0] + " " + b[1], Due.ARGUMENT, () -> x.fix(b[0], true, b[1]));
        }
        due.is("nothing was set", -1, () -> x.fix(0, false, -1));
        due.is("nor here", 2, () -> x.fix(0, true, -1));
    }

    private static void fixForgets() {
        FlowChain x = verified();
        due.fails("out of range", Due.ARGUMENT, () -> x.fix(0, true, 2));
        allLeft("out of range", x);
        due.is("what it was", 1, () -> x.fix(1, false, 1));
        nothingLeft("fix to the same", x);
        due.is("the code stays", 3, () -> x.count(3));
        x.verify();
        due.is("the map shows it", 1, () -> x.map(0, 1));
        due.is("another", -1, () -> x.fix(4, true, 0));
        nothingLeft("fix of a ROW", x);
    }

    private static void clear() {
        FlowChain x = new FlowChain(2);
        due.is("nothing to clear", 0, x::clear);
        FlowChain y = verified();
        y.feed(1, 5);
        y.run(9);
        Due.put(y, "out");
        due.is("three INSTRUCTIONS", 3, y::clear);
        nothingLeft("clear", y);
        due.is("no CODE", 0, () -> y.count(3));
        due.fails("no INSTRUCTION", Due.ELEMENT, () -> y.instruction(0, false));
        due.fails("nothing to verify", Due.STATE, y::verify);
        due.is("not FIXED", -1, () -> y.fix(1, false, -1));
        due.is("BOTTOM", -1, () -> y.fix(2, true, -1));
        due.is("the text stays", 3, () -> y.count(2));
        due.is("it is SEALED", 1, () -> y.count(1));
        due.is("values stay", 1, () -> y.value(0));
        due.is("FUEL taken stays", 3, () -> y.count(6));
        due.is("the INPUT stays", 1, () -> y.drain(1));
        due.is("new code begins at 0", 0, () -> y.code(15, 0));
        due.is("one INSTRUCTION", 1, y::clear);
    }
}
