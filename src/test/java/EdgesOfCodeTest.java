/** Sentences that name edges: of CODE and COMPILED in the terms, and of promises 7, 8, 9, 19 and 20. */
public final class EdgesOfCodeTest {
    private static final Due due = new Due();
    private static final int LEAST = Integer.MIN_VALUE;
    private static final int MOST = Integer.MAX_VALUE;

    public static void main(String[] args) {
        most();
        compiled();
        operations();
        codeIsFull();
        codeForgets();
        itsNumber();
        names();
        marks();
        fixForgets();
        thatBefore();
        clearForgets();
        clearAnswers();
        instructions();
        fromTheCompiler();
        noInstruction();
        counts();
        whether();
        told();
        due.end();
    }

    private static FlowChain verified() {
        FlowChain x = Due.compiled(Due.chain(3), "var b:1;row r:2;a=1;");
        x.verify();
        return x;
    }

    /** Neither PROGRAM nor VERIFIED nor maps. */
    private static void forgotten(String what, FlowChain x) {
        due.is(what + ": no PROGRAM", 0, () -> x.count(5));
        due.fails(what + ": no walk", Due.UNSUPPORTED, () -> x.walk(600));
        due.is(what + ": not VERIFIED", 0, () -> x.count(4));
        due.fails(what + ": no run", Due.UNSUPPORTED, () -> x.run(600));
        due.fails(what + ": no maps", Due.STATE, () -> x.map(0, 0));
        due.fails(what + ": no regions", Due.STATE, () -> x.region(0, -1));
    }

    private static void most() {
        due.sentence("CODE: at most 64 INSTRUCTIONS, an operation and x");
        FlowChain x = Due.chain(1);
        for (int k = 0; k < 63; k++) {
            x.code(12, k + 1);
        }
        x.code(15, 0);
        due.is("64 can be VERIFIED", 64, x::verify);
        due.is("and run", 0, () -> x.run(64));
        due.is("all of them", 64, () -> x.count(6));
        due.fails("a 65th is refused", Due.STATE, () -> x.code(15, 0));
        due.is("those stay VERIFIED", 1, () -> x.count(4));
    }

    private static void made(String text, int... pairs) {
        FlowChain x = Due.put(Due.chain(1), text);
        due.is(text, pairs.length / 2, x::compile);
        due.code(text, x, pairs);
    }

    private static void compiled() {
        due.sentence("COMPILED: E from left to right; each STATEMENT its Es, then 2, 4, 13 and 2, or 14;");
        made("a=b-c;", 1, 1, 1, 2, 6, 0, 2, 0, 15, 0);
        made("row r:0;r[b]=c;", 1, 1, 1, 2, 4, 17, 15, 0);
        made("in a:0;", 13, 0, 2, 0, 15, 0);
        made("out b:0;", 1, 1, 14, 0, 15, 0);
        due.sentence("if: E, ZERO to behind the BLOCK, the BLOCK, and with else GOTO behind all before that, its BLOCK;");
        made("if a{}", 1, 0, 11, 2, 15, 0);
        made("if a{}else{}", 1, 0, 11, 3, 12, 3, 15, 0);
        made("if a{b=c;}else{}d=1;", 1, 0, 11, 5, 1, 2, 2, 1, 12, 5, 0, 1, 2, 3, 15, 0);
        made("if a{}else{b=c;}", 1, 0, 11, 3, 12, 5, 1, 2, 2, 1, 15, 0);
        due.sentence("while: E, ZERO to behind all, the BLOCK, GOTO to its E;");
        made("while a{}", 1, 0, 11, 3, 12, 0, 15, 0);
        made("b=1;while a+1{}", 0, 1, 2, 1, 1, 0, 0, 1, 5, 0, 11, 7, 12, 2, 15, 0);
        due.sentence("do: the BLOCK again; at the end HALT.");
        made("proc p{}do p;do p;", 15, 0);
        made("proc p{while a{}}do p;do p;", 1, 0, 11, 3, 12, 0, 1, 0, 11, 6, 12, 3, 15, 0);
    }

    private static void operations() {
        due.sentence("operation 0 .. 15, any x.");
        int[] xs = {0, -1, 26, 64, LEAST, MOST};
        FlowChain x = new FlowChain(1);
        int number = 0;
        for (int operation = 0; operation <= 15; operation++) {
            if (number + xs.length > 64) {
                x.clear();
                number = 0;
            }
            for (int argument : xs) {
                int o = operation;
                int at = number;
                due.is("operation " + o + " with x " + argument, at, () -> x.code(o, argument));
                due.is("its operation", o, () -> x.instruction(at, false));
                due.is("its x", argument, () -> x.instruction(at, true));
                number++;
            }
        }
        int[] wrong = {-1, 16, 17, LEAST, MOST};
        for (int operation : wrong) {
            due.fails("operation " + operation, Due.ARGUMENT, () -> x.code(operation, 0));
        }
    }

    private static void codeIsFull() {
        due.sentence("64 are there: IllegalStateException.");
        FlowChain x = new FlowChain(1);
        for (int k = 0; k < 63; k++) {
            x.code(0, k);
        }
        due.is("the 64th", 63, () -> x.code(0, 63));
        for (int operation = 0; operation <= 15; operation++) {
            int o = operation;
            due.fails("a 65th, " + o, Due.STATE, () -> x.code(o, 0));
        }
        due.is("64", 64, () -> x.count(3));
        due.is("the last is what it was", 63, () -> x.instruction(63, true));
        x.clear();
        due.is("from the start", 0, () -> x.code(15, 0));
        FlowChain y = Due.compiled(Due.chain(1), Due.times("a=1;", 30) + "while a{}");
        due.fails("64 from the COMPILER", Due.STATE, () -> y.code(15, 0));
        due.is("the PROGRAM stays", 1, () -> y.count(5));
    }

    private static void codeForgets() {
        due.sentence("One more INSTRUCTION; there is no PROGRAM, nothing is VERIFIED.");
        FlowChain x = verified();
        due.is("the next", 3, () -> x.code(15, 0));
        forgotten("code", x);
        due.is("FIXED stays", 1, () -> x.fix(1, false, 1));
        due.is("the ROW's LABEL stays", 2, () -> x.fix(17, true, 2));
        due.code("behind the others", x, 0, 1, 2, 0, 15, 0, 15, 0);
        due.is("it can be VERIFIED anew", 3, x::verify);
    }

    private static void itsNumber() {
        due.sentence("Answers its number.");
        FlowChain x = new FlowChain(1);
        due.is("the first", 0, () -> x.code(15, 0));
        due.is("the second", 1, () -> x.code(15, 0));
        due.fails("one that is refused", Due.ARGUMENT, () -> x.code(16, 0));
        due.is("takes no number", 2, () -> x.code(15, 0));
    }

    private static void names() {
        due.sentence("name 0 .. 25");
        FlowChain x = new FlowChain(2);
        for (int row = 0; row < 2; row++) {
            boolean isRow = row == 1;
            due.is("0", -1, () -> x.fix(0, isRow, 1));
            due.is("25", -1, () -> x.fix(25, isRow, 1));
            int[] wrong = {-1, 26, 51, 52, LEAST, MOST};
            for (int name : wrong) {
                due.fails("name " + name, Due.ARGUMENT, () -> x.fix(name, isRow, 0));
            }
            due.is("0 has it", 1, () -> x.fix(0, isRow, -1));
            due.is("25 has it", 1, () -> x.fix(25, isRow, -1));
        }
    }

    private static void marks() {
        due.sentence("label a LABEL, or -1 for BOTTOM (a ROW) or not FIXED (a VARIABLE).");
        FlowChain x = new FlowChain(3);
        x.below(2, 1);
        x.below(1, 0);
        x.seal();
        due.is("a ROW to the highest", -1, () -> x.fix(3, true, 0));
        due.is("a VARIABLE to the highest", -1, () -> x.fix(3, false, 0));
        Due.coded(x, 0, 0, 3, 3, 2, 3, 1, 3, 15, 0);
        x.verify();
        due.is("the ROW's", 0, () -> x.map(2, 28));
        due.is("the VARIABLE's", 0, () -> x.map(0, 3));
        x.fix(3, true, -1);
        x.verify();
        due.is("-1: BOTTOM", 2, () -> x.map(2, 28));
        due.is("the VARIABLE is FIXED yet", 0, () -> x.map(4, 3));
        x.fix(3, false, -1);
        x.verify();
        due.is("-1: not FIXED", 2, () -> x.map(0, 3));
        due.is("nor behind", 2, () -> x.map(4, 3));
        int[] wrong = {-2, 3, LEAST, MOST};
        for (int label : wrong) {
            due.fails("label " + label, Due.ARGUMENT, () -> x.fix(3, false, label));
            due.fails("label " + label + " of a ROW", Due.ARGUMENT, () -> x.fix(3, true, label));
        }
        due.is("what is refused leaves it VERIFIED", 1, () -> x.count(4));
        FlowChain open = new FlowChain(2);
        due.is("it need not be SEALED", -1, () -> open.fix(0, true, 1));
    }

    private static void fixForgets() {
        due.sentence("The LABEL of a ROW or a FIXED VARIABLE; there is no PROGRAM, nothing is VERIFIED.");
        for (int k = 0; k < 4; k++) {
            boolean isRow = k % 2 == 1;
            int label = k < 2 ? 0 : -1;
            FlowChain x = verified();
            due.is("one that had none", -1, () -> x.fix(7, isRow, label));
            forgotten("fix", x);
            due.is("the CODE stays", 3, () -> x.count(3));
            due.is("and can be VERIFIED", 3, x::verify);
        }
    }

    private static void thatBefore() {
        due.sentence("Answers that before, -1 likewise.");
        FlowChain x = Due.chain(3);
        for (int row = 0; row < 2; row++) {
            boolean isRow = row == 1;
            int[] labels = {2, 0, 1, -1, 0, -1, -1, 2};
            int before = -1;
            for (int label : labels) {
                int b = before;
                due.is("before " + label, b, () -> x.fix(9, isRow, label));
                before = label;
            }
        }
        Due.compiled(x, "var c:2;row d:1;row e:0;");
        due.is("what compile set", 2, () -> x.fix(2, false, -1));
        due.is("of a ROW", 1, () -> x.fix(3, true, -1));
        due.is("a ROW of a LABEL that is BOTTOM", 0, () -> x.fix(4, true, -1));
        due.is("what compile did not set", -1, () -> x.fix(9, false, -1));
        due.is("nor of a ROW", -1, () -> x.fix(9, true, -1));
    }

    private static void clearForgets() {
        due.sentence("There is no CODE, no PROGRAM, nothing VERIFIED any more; FIXED, ROWS' LABELS as at first.");
        FlowChain x = verified();
        x.fix(0, false, 2);
        x.fix(25, false, 2);
        x.fix(0, true, 2);
        x.fix(25, true, 2);
        x.clear();
        forgotten("clear", x);
        due.is("no CODE", 0, () -> x.count(3));
        due.fails("no INSTRUCTION", Due.ELEMENT, () -> x.instruction(0, false));
        due.fails("nothing to verify", Due.STATE, x::verify);
        for (int name = 0; name < 26; name++) {
            int at = name;
            due.is("not FIXED", -1, () -> x.fix(at, false, -1));
            due.is("BOTTOM", -1, () -> x.fix(at, true, -1));
        }
        FlowChain y = verified();
        y.clear();
        forgotten("clear of a VERIFIED PROGRAM", y);
    }

    private static void clearAnswers() {
        due.sentence("Answers how many INSTRUCTIONS there were.");
        FlowChain x = new FlowChain(1);
        due.is("none", 0, x::clear);
        x.code(0, 0);
        due.is("one", 1, x::clear);
        due.is("none then", 0, x::clear);
        for (int k = 0; k < 64; k++) {
            x.code(0, 0);
        }
        due.is("64", 64, x::clear);
        due.is("those of the COMPILER", 3, verified()::clear);
    }

    private static void instructions() {
        due.sentence("The operation of an INSTRUCTION, or (argument) its x");
        FlowChain x = new FlowChain(1);
        for (int k = 0; k < 64; k++) {
            x.code(k % 16, 1000 + k);
        }
        for (int k = 0; k < 64; k++) {
            int at = k;
            due.is("operation " + k, k % 16, () -> x.instruction(at, false));
            due.is("x " + k, 1000 + k, () -> x.instruction(at, true));
        }
    }

    private static void fromTheCompiler() {
        due.sentence("for 5 .. 10 and 15 from the COMPILER 0");
        FlowChain x = Due.chain(1);
        for (int k = 0; k < 64; k++) {
            x.code(15, 99);
        }
        Due.compiled(x, "a=1+2-3*4/5<6;b=7=8;");
        due.code("all of them", x, 0, 1, 0, 2, 5, 0, 0, 3, 0, 4, 7, 0, 0, 5, 8, 0, 6, 0, 0, 6, 9, 0, 2, 0,
                0, 7, 0, 8, 10, 0, 2, 1, 15, 0);
    }

    private static void noInstruction() {
        due.sentence("there is none: NoSuchElementException.");
        FlowChain x = Due.coded(new FlowChain(1), 15, 0, 15, 0);
        int[] wrong = {-1, 2, 3, 63, 64, 65, LEAST, MOST};
        for (int i : wrong) {
            due.fails("operation of " + i, Due.ELEMENT, () -> x.instruction(i, false));
            due.fails("x of " + i, Due.ELEMENT, () -> x.instruction(i, true));
        }
        due.is("the last", 15, () -> x.instruction(1, false));
        FlowChain none = new FlowChain(1);
        due.fails("none at all", Due.ELEMENT, () -> none.instruction(0, false));
    }

    private static void counts() {
        due.sentence("what 0 .. 8.");
        FlowChain x = new FlowChain(5);
        int[] due0 = {5, 0, 0, 0, 0, 0, 0, -1, -1};
        for (int what = 0; what <= 8; what++) {
            int w = what;
            due.is("count " + what, due0[what], () -> x.count(w));
        }
        int[] wrong = {-1, 9, LEAST, MOST};
        for (int what : wrong) {
            due.fails("count " + what, Due.ARGUMENT, () -> x.count(what));
        }
        due.sentence("0 n, 1 whether it is SEALED, 2 THE TEXT's length, 3 INSTRUCTIONS, 4 whether they are VERIFIED,"
                + " 5 whether there is a PROGRAM,");
        FlowChain full = Due.compiled(Due.chain(6), Due.times("a=1;", 30) + "while 0{}");
        full.verify();
        Due.put(full, Due.times(" ", 240));
        int[] most = {6, 1, 240, 64, 1, 1};
        for (int what = 0; what <= 5; what++) {
            int w = what;
            due.is("count " + what, most[what], () -> full.count(w));
        }
        due.sentence("6 FUEL taken by the latest run or walk");
        FlowChain y = Due.compiled(Due.chain(1), "while 1{}");
        y.verify();
        due.is("none yet", 0, () -> y.count(6));
        int[] fuels = {1, 2, 599, 600};
        for (int fuel : fuels) {
            y.run(fuel);
            due.is("run " + fuel, fuel, () -> y.count(6));
            y.walk(fuel);
            due.is("walk " + fuel, fuel, () -> y.count(6));
        }
        due.fails("run 601", Due.ARGUMENT, () -> y.run(601));
        due.is("is not the latest", 600, () -> y.count(6));
        Due.compiled(y, "");
        due.is("compile leaves it", 600, () -> y.count(6));
        y.walk(600);
        due.is("walk over nothing", 0, () -> y.count(6));
        y.verify();
        y.run(600);
        due.is("run of HALT alone", 1, () -> y.count(6));
    }

    private static void whether() {
        due.sentence("whether: 1 or 0.");
        FlowChain x = new FlowChain(2);
        due.is("not SEALED", 0, () -> x.count(1));
        due.fails("seal fails", Due.UNSUPPORTED, x::seal);
        due.is("still not", 0, () -> x.count(1));
        x.below(0, 1);
        x.seal();
        due.is("SEALED", 1, () -> x.count(1));
        Due.compiled(x, "a=1;");
        due.is("a PROGRAM", 1, () -> x.count(5));
        due.is("not VERIFIED", 0, () -> x.count(4));
        x.verify();
        due.is("VERIFIED", 1, () -> x.count(4));
        due.is("a PROGRAM yet", 1, () -> x.count(5));
        x.code(14, 2);
        due.is("no PROGRAM", 0, () -> x.count(5));
        due.is("not VERIFIED any more", 0, () -> x.count(4));
        due.fails("verify fails", Due.UNSUPPORTED, x::verify);
        due.is("not VERIFIED yet", 0, () -> x.count(4));
    }

    private static void told() {
        due.sentence("7 PLACE, 8 KIND of the latest seal, compile or verify that threw no IllegalStateException"
                + " (-1 without one, or if it did not fail)");
        FlowChain x = new FlowChain(2);
        due.told("without one", -1, -1, x);
        due.fails("verify, not SEALED", Due.STATE, x::verify);
        due.fails("compile, not SEALED", Due.STATE, x::compile);
        due.told("two that threw it", -1, -1, x);
        due.fails("seal", Due.UNSUPPORTED, x::seal);
        due.told("seal", 1, 7, x);
        due.fails("verify, not SEALED", Due.STATE, x::verify);
        due.fails("compile, not SEALED", Due.STATE, x::compile);
        due.told("seal yet", 1, 7, x);
        x.below(0, 1);
        x.seal();
        due.told("seal did not fail", -1, -1, x);
        due.fails("SYNTAX", Due.ELEMENT, () -> Due.put(x, "ab").compile());
        due.told("compile", 0, 8, x);
        due.fails("seal again", Due.STATE, x::seal);
        due.fails("verify, no CODE", Due.STATE, x::verify);
        due.told("compile yet", 0, 8, x);
        x.code(0, 0);
        due.fails("verify", Due.UNSUPPORTED, x::verify);
        due.told("verify", 0, 2, x);
        x.clear();
        x.fix(0, false, 1);
        due.fails("run", Due.UNSUPPORTED, () -> x.run(1));
        due.fails("walk", Due.UNSUPPORTED, () -> x.walk(1));
        due.fails("map", Due.STATE, () -> x.map(0, 0));
        due.fails("count", Due.ARGUMENT, () -> x.count(9));
        due.told("verify yet", 0, 2, x);
        Due.compiled(x, "a=1;");
        due.told("compile did not fail", -1, -1, x);
        due.fails("FLOW", Due.UNSUPPORTED, () -> Due.put(x, "in a:1;out a:0;").compile());
        due.told("FLOW", 7, 9, x);
        x.verify();
        due.told("verify did not fail", -1, -1, x);
        due.fails("TOO LONG", Due.BOUNDS, () -> Due.put(x, Due.times("a=1;", 32)).compile());
        due.told("TOO LONG", 64, 10, x);
    }
}
