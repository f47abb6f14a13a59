/** Sentences that name edges: of MEANING and the operations in the terms, and of promises 13 to 18. */
public final class EdgesOfDoingTest {
    private static final Due due = new Due();
    private static final int LEAST = Integer.MIN_VALUE;
    private static final int MOST = Integer.MAX_VALUE;

    public static void main(String[] args) {
        atFirst();
        leftToRight();
        wraps();
        cuts();
        ones();
        notNought();
        inputs();
        outputs();
        endsBehindAll();
        endsByNought();
        endsOutside();
        endsWithoutFuel();
        endsFull();
        stack();
        operations();
        feedFull();
        feedAnswers();
        drain();
        fuels();
        fuelOfRun();
        notVerified();
        fromTheStart();
        fuelOfWalk();
        noProgram();
        output();
        values();
        due.end();
    }

    /** Both the walker and the machine end so, and leave that in VARIABLE a. */
    private static void both(String text, int end, int a) {
        FlowChain x = Due.compiled(Due.chain(2), text);
        x.verify();
        due.is("walk: " + text, end, () -> x.walk(600));
        due.is("a by walk: " + text, a, () -> x.value(0));
        due.is("run: " + text, end, () -> x.run(600));
        due.is("a by run: " + text, a, () -> x.value(0));
    }

    private static FlowChain coded(int... pairs) {
        FlowChain x = Due.coded(Due.chain(2), pairs);
        x.verify();
        return x;
    }

    private static void atFirst() {
        due.sentence("VARIABLES and the 8 ints of each ROW are 0 at first");
        FlowChain x = Due.compiled(Due.chain(1), "a=a+1;z=z+1;");
        FlowChain y = Due.compiled(Due.chain(1), "row a:0;row z:0;a[0]=a[0]+1;a[7]=a[7]+1;z[0]=z[0]+1;z[7]=z[7]+1;");
        x.verify();
        y.verify();
        for (int round = 0; round < 4; round++) {
            due.is("done", 0, round % 2 == 0 ? () -> x.run(600) : () -> x.walk(600));
            due.is("the first VARIABLE", 1, () -> x.value(0));
            due.is("the last VARIABLE", 1, () -> x.value(25));
            due.is("done", 0, round % 2 == 0 ? () -> y.walk(600) : () -> y.run(600));
            int[] cells = {26, 33, 26 + 200, 233};
            for (int cell : cells) {
                due.is("int " + cell, 1, () -> y.value(cell));
            }
        }
    }

    private static void leftToRight() {
        due.sentence("all is done from left to right");
        both("a=100/10/5;", 0, 2);
        both("a=10-4-3;", 0, 3);
        both("a=2-3*4;", 0, -10);
        both("row r:0;a=1;a=1/0+r[8];", 1, 1);
        both("row r:0;a=1;a=r[8]+1/0;", 2, 1);
        both("row r:0;a=1;r[1/0]=r[8];", 1, 1);
        both("row r:0;a=1;r[r[8]]=1/0;", 2, 1);
        both("row r:0;a=1;a=0*(1/0);", 1, 1);
        both("a=1;if 0{a=1/0;}", 0, 1);
    }

    private static void wraps() {
        due.sentence("+ - * wrap");
        both("b=65536*32768;a=b;", 0, LEAST);
        both("b=65536*32768;a=b-1;", 0, MOST);
        both("b=65536*32767+65535;a=b+1;", 0, LEAST);
        both("b=65536*32768;a=0-b;", 0, LEAST);
        both("b=65536*32768;a=b+b;", 0, 0);
        both("a=65536*65536;", 0, 0);
        both("b=65536*32767+65535;a=b*b;", 0, 1);
        both("a=999999999*999999999;", 0, 999999999 * 999999999);
    }

    private static void cuts() {
        due.sentence("/ cuts toward 0");
        both("a=7/2;", 0, 3);
        both("a=(0-7)/2;", 0, -3);
        both("a=7/(0-2);", 0, -3);
        both("a=(0-7)/(0-2);", 0, 3);
        both("a=1/2;", 0, 0);
        both("a=(0-1)/2;", 0, 0);
        both("a=0/5;", 0, 0);
        both("b=65536*32768;a=b/(0-1);", 0, LEAST);
        both("b=65536*32768;a=b/b;", 0, 1);
        both("b=65536*32768;a=b/1;", 0, LEAST);
    }

    private static void ones() {
        due.sentence("< and = are 1 or 0");
        both("a=1<2;", 0, 1);
        both("a=2<2;", 0, 0);
        both("a=2<1;", 0, 0);
        both("b=65536*32768;a=b<b-1;", 0, 1);
        both("b=65536*32768;a=b-1<b;", 0, 0);
        both("a=(0-1)<0;", 0, 1);
        both("a=5=5;", 0, 1);
        both("a=5=6;", 0, 0);
        both("b=65536*32768;a=b=0-b;", 0, 1);
    }

    private static void notNought() {
        due.sentence("if, while: not 0.");
        both("if 0{a=1;}else{a=2;}", 0, 2);
        both("if 1{a=1;}else{a=2;}", 0, 1);
        both("if 0-1{a=1;}else{a=2;}", 0, 1);
        both("if 65536*32768{a=1;}else{a=2;}", 0, 1);
        both("if 65536*65536{a=1;}else{a=2;}", 0, 2);
        both("if 0{a=1;}", 0, 0);
        both("b=0-3;while b{b=b+1;a=a+1;}", 0, 3);
        both("while 0{a=1;}", 0, 0);
    }

    private static void inputs() {
        due.sentence("in takes the next number of the INPUT of LABEL, 0 behind its end");
        FlowChain x = Due.compiled(Due.chain(2), "while b<21{in a:1;b=b+1;if b=20{c=a;}}in d:0;");
        for (int k = 1; k <= 20; k++) {
            x.feed(1, k == 20 ? MOST : k);
        }
        x.feed(0, LEAST);
        x.verify();
        for (int round = 0; round < 2; round++) {
            due.is("done", 0, round == 0 ? () -> x.run(600) : () -> x.walk(600));
            due.is("the 20th", MOST, () -> x.value(2));
            due.is("behind the end", 0, () -> x.value(0));
            due.is("the other INPUT", LEAST, () -> x.value(3));
        }
        both("a=7;in a:1;", 0, 0);
    }

    private static void outputs() {
        due.sentence("out puts E to the OUTPUT of LABEL.");
        FlowChain x = Due.compiled(Due.chain(6), "out 1:5;out 2:0;out 3:5;");
        x.verify();
        for (int round = 0; round < 2; round++) {
            due.is("done", 0, round == 0 ? () -> x.run(600) : () -> x.walk(600));
            due.is("first of 5", 1, () -> x.output(5, 0));
            due.is("second of 5", 3, () -> x.output(5, 1));
            due.fails("no third", Due.ELEMENT, () -> x.output(5, 2));
            due.is("first of 0", 2, () -> x.output(0, 0));
            due.fails("none of 1", Due.ELEMENT, () -> x.output(1, 0));
        }
    }

    private static void endsBehindAll() {
        due.sentence("It ENDS: 0 behind all");
        both("", 0, 0);
        both("a=1;", 0, 1);
        both("while a<3{a=a+1;}", 0, 3);
        due.is("a HALT before others", 0, () -> coded(15, 0, 0, 0, 15, 0).run(600));
        // as deep as 64 INSTRUCTIONS go: 29 BLOCKS within BLOCKS, and three PROCS
        String open = Due.times("if1{", 7);
        String shut = Due.times("}", 8);
        both("proc b{" + open + "a=2;" + shut + "proc c{" + open + "do b;" + shut + "proc d{" + open + "do c;" + shut
                + "if1{" + open + "do d;" + shut, 0, 2);
    }

    private static void endsByNought() {
        due.sentence("1 at a / by 0");
        both("a=5;a=a/0;a=6;", 1, 5);
        both("a=5;a=0/0;a=6;", 1, 5);
        both("a=5;a=a/(a-5);a=6;", 1, 5);
        both("a=5;if 1/0{a=6;}else{a=7;}", 1, 5);
        both("a=5;while 1/0{a=6;}a=7;", 1, 5);
        both("a=2;while 4/a{a=a-1;}a=7;", 1, 0);
        both("a=5;out 1/0:0;a=6;", 1, 5);
        both("proc p{a=1/0;}a=5;if 1{while 1{do p;a=6;}}a=7;", 1, 5);
        FlowChain x = Due.compiled(Due.chain(2), "out 8:1;b=1/0;out 9:1;");
        x.verify();
        due.is("ended", 1, () -> x.run(600));
        due.is("what was put before", 8, () -> x.output(1, 0));
        due.fails("not what is behind", Due.ELEMENT, () -> x.output(1, 1));
    }

    private static void endsOutside() {
        due.sentence("2 at an index not 0 .. 7 (when the ROW is asked or set)");
        String[] wrong = {"8", "0-1", "999999999", "65536*32768", "65536*32768-1"};
        for (String index : wrong) {
            both("row r:0;a=5;a=r[" + index + "];", 2, 5);
            both("row r:0;a=5;r[" + index + "]=1;a=6;", 2, 5);
        }
        both("row r:0;r[0]=3;r[7]=4;a=r[0]*10+r[7];", 0, 34);
        // asked before, set behind the other E
        both("row r:0;a=5;r[8]=1/0;", 1, 5);
        both("row r:0;a=5;r[8]=r[9];", 2, 5);
        both("row r:0;a=5;r[0-1]=0;", 2, 5);
        both("row a:0;row z:0;z[8]=1;", 2, 0);
        FlowChain x = Due.compiled(Due.chain(1), "row a:0;row b:0;a[8]=1;");
        x.walk(600);
        due.is("not in the ROW behind it", 0, () -> x.value(34));
        FlowChain y = Due.compiled(Due.chain(1), "row b:0;b[0-1]=1;");
        y.walk(600);
        due.is("nor in the one before it", 0, () -> y.value(33));
    }

    private static void endsWithoutFuel() {
        due.sentence("3 without FUEL");
        both("a=1;while 1{}", 3, 1);
        FlowChain x = Due.compiled(Due.chain(1), "a=1;b=2;");
        x.verify();
        due.is("walk with one", 3, () -> x.walk(1));
        due.is("the second was not begun", 0, () -> x.value(1));
        due.is("walk with two", 0, () -> x.walk(2));
        due.is("run with four", 3, () -> x.run(4));
        due.is("run with five", 0, () -> x.run(5));
        FlowChain y = Due.compiled(Due.chain(1), "a=1/0;");
        y.verify();
        due.is("the fault takes FUEL, too: run", 3, () -> y.run(2));
        due.is("enough for it: run", 1, () -> y.run(3));
        due.is("enough for it: walk", 1, () -> y.walk(1));
    }

    private static void endsFull() {
        due.sentence("4 at an out where 20 are in that OUTPUT.");
        both("while a<20{a=a+1;out a:1;}", 0, 20);
        both("while a<21{a=a+1;out a:1;}", 4, 21);
        both("while a<20{a=a+1;out a:1;}out 5:0;a=9;", 0, 9);
        both("while a<20{a=a+1;out a:1;}out 1/0:1;", 1, 20);
        FlowChain x = Due.compiled(Due.chain(2), "while 1{a=a+1;out a:1;}");
        x.verify();
        for (int round = 0; round < 2; round++) {
            due.is("full", 4, round == 0 ? () -> x.run(600) : () -> x.walk(600));
            due.is("the first", 1, () -> x.output(1, 0));
            due.is("the 20th", 20, () -> x.output(1, 19));
            due.fails("no 21st", Due.ELEMENT, () -> x.output(1, 20));
        }
    }

    private static void stack() {
        due.sentence("with a STACK, at most 30, from which they take, the last named first, and put");
        int[] pairs = new int[2 * 62];
        for (int k = 0; k < 30; k++) {
            pairs[2 * k + 1] = k + 1;
            pairs[60 + 2 * k] = k < 29 ? 6 : 2;
        }
        pairs[120] = 15;
        pairs[122] = 15;
        FlowChain x = coded(pairs);
        due.is("30 are put and taken", 0, () -> x.run(600));
        int left = 30;
        for (int k = 29; k >= 1; k--) {
            left = k - left;
        }
        int value = left;
        due.is("the last was taken first", value, () -> x.value(0));
        int[] left30 = new int[62];
        left30[60] = 15;
        x.clear();
        Due.coded(x, left30);
        x.verify();
        due.is("a HALT upon 30", 0, () -> x.run(600));
        x.clear();
        Due.coded(x, pairs);
        x.verify();
        due.is("then it is empty again", 0, () -> x.run(600));
        due.is("the last was taken first again", value, () -> x.value(0));
        // 28 within Es of 9 levels, and the index before them
        StringBuilder text = new StringBuilder("row r:0;r[1]=");
        for (int k = 0; k < 8; k++) {
            text.append("0=0+1*(");
        }
        text.append("0=0+1*0").append(Due.times(")", 8)).append(';');
        FlowChain y = Due.compiled(Due.chain(1), text.toString());
        due.is("the highest that the COMPILER makes", y.count(3), y::verify);
        due.is("by run", 0, () -> y.run(600));
        int cell = 26 + 8 * 17 + 1;
        due.is("1 if what is within is 0, nine deep", 1, () -> y.value(cell));
        due.is("by walk", 0, () -> y.walk(600));
        due.is("the same", 1, () -> y.value(cell));
    }

    private static int runs(int... pairs) {
        return coded(pairs).run(600);
    }

    private static void operations() {
        due.sentence("0 PUSH: x.");
        int[] xs = {0, -1, LEAST, MOST};
        for (int v : xs) {
            FlowChain x = coded(0, v, 2, 25, 15, 0);
            x.run(600);
            due.is("x", v, () -> x.value(25));
        }
        due.sentence("1 LOAD: VARIABLE x (0 a .. 25 z). 2 STORE v: VARIABLE x is v. 3 AT i: int i of ROW x.");
        FlowChain names = coded(0, 5, 2, 25, 1, 25, 0, 1, 5, 0, 2, 0, 1, 0, 2, 12, 15, 0);
        due.is("done", 0, () -> names.run(600));
        due.is("z", 5, () -> names.value(25));
        due.is("a", 6, () -> names.value(0));
        due.is("m", 6, () -> names.value(12));
        due.sentence("5 ADD, 6 SUB, 7 MUL, 8 DIV, 9 LESS, 10 SAME p, q.");
        int[][] reckoned = {{5, LEAST, -1, MOST}, {6, LEAST, 1, MOST}, {7, LEAST, -1, LEAST}, {8, LEAST, -1, LEAST},
            {8, -7, 2, -3}, {9, LEAST, MOST, 1}, {9, MOST, LEAST, 0}, {10, LEAST, LEAST, 1}, {10, LEAST, MOST, 0}};
        for (int[] r : reckoned) {
            FlowChain x = coded(0, r[1], 0, r[2], r[0], 99, 2, 0, 15, 0);
            due.is("done", 0, () -> x.run(600));
            due.is(r[1] + " by " + r[0] + " with " + r[2], r[3], () -> x.value(0));
        }
        due.is("DIV by 0", 1, () -> runs(0, 5, 0, 0, 8, 0, 15, 0));
        due.sentence("13 IN: next of INPUT x. 14 OUT v: to OUTPUT x.");
        FlowChain through = coded(13, 1, 14, 1, 13, 0, 14, 0, 13, 0, 14, 0, 15, 0);
        through.feed(1, 31);
        through.feed(0, 32);
        due.is("done", 0, () -> through.run(600));
        due.is("of 1", 31, () -> through.output(1, 0));
        due.is("of 0", 32, () -> through.output(0, 0));
        due.is("behind the end", 0, () -> through.output(0, 1));
        due.sentence("4 TO i, v: it is v.");
        int[][] cells = {{0, 0, 26}, {0, 7, 33}, {25, 0, 226}, {25, 7, 233}};
        for (int[] c : cells) {
            FlowChain x = coded(0, c[1], 0, 77, 4, c[0], 0, c[1], 3, c[0], 2, 1, 15, 0);
            due.is("done", 0, () -> x.run(600));
            due.is("set", 77, () -> x.value(c[2]));
            due.is("asked", 77, () -> x.value(1));
        }
        due.sentence("11 ZERO p: if it is 0, x is next.");
        int[] conditions = {0, 1, -1, LEAST};
        for (int p : conditions) {
            FlowChain x = coded(0, p, 11, 4, 0, 5, 2, 0, 15, 0);
            x.run(600);
            due.is("behind ZERO of " + p, p == 0 ? 0 : 5, () -> x.value(0));
        }
        due.sentence("12 GOTO: x is next.");
        due.is("to itself for ever", 3, () -> runs(12, 0));
        due.is("to the last", 0, () -> runs(12, 2, 12, 1, 15, 0));
        due.sentence("15 HALT: ENDS 0.");
        due.is("at once", 0, () -> runs(15, 99));
        due.is("upon a STACK", 0, () -> runs(0, 1, 0, 1, 15, 0));
    }

    private static void feedFull() {
        due.sentence("20 are there: IllegalStateException.");
        FlowChain x = new FlowChain(6);
        for (int label = 0; label < 6; label += 5) {
            int l = label;
            for (int k = 1; k <= 20; k++) {
                int count = k;
                due.is("number " + k, count, () -> x.feed(l, count));
            }
            due.fails("number 21", Due.STATE, () -> x.feed(l, 21));
            due.fails("and again", Due.STATE, () -> x.feed(l, 21));
            due.is("another INPUT has room", 1, () -> x.feed(l == 0 ? 1 : 4, 0));
        }
        due.is("20 are there", 20, () -> x.drain(5));
        due.is("then there is room", 1, () -> x.feed(5, 0));
    }

    private static void feedAnswers() {
        due.sentence("One more number for the INPUT. Answers how many.");
        FlowChain x = new FlowChain(2);
        due.is("any number", 1, () -> x.feed(0, LEAST));
        due.is("any number", 2, () -> x.feed(0, MOST));
        due.is("each for itself", 1, () -> x.feed(1, 0));
        due.fails("label 2", Due.ARGUMENT, () -> x.feed(2, 0));
        due.fails("label -1", Due.ARGUMENT, () -> x.feed(-1, 0));
        due.is("two and one", 3, () -> x.feed(0, 0));
    }

    private static void drain() {
        due.sentence("The INPUT of a LABEL is empty. Answers how many there were.");
        FlowChain x = Due.compiled(Due.chain(2), "in a:0;in b:1;");
        due.is("empty before", 0, () -> x.drain(0));
        x.feed(0, 5);
        x.feed(1, 6);
        x.walk(9);
        due.is("taking leaves them", 1, () -> x.drain(0));
        due.is("empty then", 0, () -> x.drain(0));
        x.walk(9);
        due.is("nothing is taken", 0, () -> x.value(0));
        due.is("the other one stays", 6, () -> x.value(1));
        x.feed(0, 7);
        x.walk(9);
        due.is("what is fed then is the first", 7, () -> x.value(0));
        due.fails("label 2", Due.ARGUMENT, () -> x.drain(2));
        due.fails("label -1", Due.ARGUMENT, () -> x.drain(-1));
    }

    private static void fuels() {
        due.sentence("fuel 1 .. 600");
        FlowChain x = Due.compiled(Due.chain(1), "while 1{}");
        x.verify();
        int[] right = {1, 2, 599, 600};
        for (int fuel : right) {
            due.is("run " + fuel, 3, () -> x.run(fuel));
            due.is("taken by run " + fuel, fuel, () -> x.count(6));
            due.is("walk " + fuel, 3, () -> x.walk(fuel));
            due.is("taken by walk " + fuel, fuel, () -> x.count(6));
        }
        int[] wrong = {0, -1, 601, LEAST, MOST};
        for (int fuel : wrong) {
            due.fails("run " + fuel, Due.ARGUMENT, () -> x.run(fuel));
            due.fails("walk " + fuel, Due.ARGUMENT, () -> x.walk(fuel));
        }
    }

    private static void fuelOfRun() {
        due.sentence("one for each INSTRUCTION.");
        int[] pairs = new int[128];
        for (int k = 0; k < 64; k++) {
            pairs[2 * k] = 12;
            pairs[2 * k + 1] = k + 1;
        }
        pairs[126] = 15;
        FlowChain x = coded(pairs);
        due.is("63", 3, () -> x.run(63));
        due.is("64", 0, () -> x.run(64));
        due.is("64 taken", 64, () -> x.count(6));
        due.is("600", 0, () -> x.run(600));
        due.is("no more than that", 64, () -> x.count(6));
        FlowChain halt = coded(15, 0);
        due.is("HALT takes one", 0, () -> halt.run(1));
        due.is("one taken", 1, () -> halt.count(6));
        FlowChain fault = coded(0, 1, 0, 0, 8, 0, 15, 0);
        due.is("before the fault", 3, () -> fault.run(2));
        due.is("at the fault", 1, () -> fault.run(3));
        due.is("three taken", 3, () -> fault.count(6));
    }

    private static void notVerified() {
        due.sentence("The CODE is not VERIFIED: UnsupportedOperationException.");
        FlowChain x = Due.chain(2);
        due.fails("no CODE", Due.UNSUPPORTED, () -> x.run(600));
        x.code(15, 0);
        due.fails("not yet", Due.UNSUPPORTED, () -> x.run(600));
        x.verify();
        due.is("VERIFIED", 0, () -> x.run(600));
        x.code(14, 0);
        due.fails("not any more", Due.UNSUPPORTED, () -> x.run(600));
        due.fails("verify fails", Due.UNSUPPORTED, x::verify);
        due.fails("nor then", Due.UNSUPPORTED, () -> x.run(600));
        x.clear();
        Due.coded(x, 13, 1, 14, 0, 15, 0);
        due.fails("KIND 6", Due.UNSUPPORTED, x::verify);
        due.fails("nor with maps alone", Due.UNSUPPORTED, () -> x.run(600));
        due.is("the latest was HALT", 1, () -> x.count(6));
        FlowChain open = Due.coded(new FlowChain(2), 15, 0);
        due.fails("not SEALED", Due.UNSUPPORTED, () -> open.run(1));
    }

    private static void fromTheStart() {
        due.sentence("It is done from INSTRUCTION 0, all VARIABLES, ROWS 0, OUTPUTS empty, INPUTS from their start. Answers how it ENDS.");
        FlowChain x = Due.compiled(Due.chain(2), "row z:0;in a:0;out a:1;b=b+1;z[7]=z[7]+1;c=8/a;");
        x.verify();
        x.feed(0, 4);
        x.feed(0, 9);
        for (int round = 0; round < 4; round++) {
            due.is("done", 0, round % 2 == 0 ? () -> x.run(600) : () -> x.walk(600));
            due.is("the first number", 4, () -> x.value(0));
            due.is("b from 0", 1, () -> x.value(1));
            due.is("z[7] from 0", 1, () -> x.value(233));
            due.is("one OUTPUT", 4, () -> x.output(1, 0));
            due.fails("and one alone", Due.ELEMENT, () -> x.output(1, 1));
        }
        x.drain(0);
        due.is("a fault by run", 1, () -> x.run(600));
        due.is("c is 0 then", 0, () -> x.value(2));
        due.is("a fault by walk", 1, () -> x.walk(600));
        x.feed(0, 2);
        due.is("no fault then", 0, () -> x.walk(600));
        due.is("c", 4, () -> x.value(2));
        due.is("a run without FUEL", 3, () -> x.run(1));
        due.is("leaves c 0", 0, () -> x.value(2));
        due.fails("and no OUTPUT", Due.ELEMENT, () -> x.output(1, 0));
    }

    private static void fuel(String text, int taken) {
        FlowChain x = Due.compiled(Due.chain(2), text);
        due.is("walk: " + text, 0, () -> x.walk(Math.max(1, taken)));
        due.is("FUEL: " + text, taken, () -> x.count(6));
        if (taken > 1) {
            due.is("one less: " + text, 3, () -> x.walk(taken - 1));
            due.is("all is taken: " + text, taken - 1, () -> x.count(6));
        }
    }

    private static void fuelOfWalk() {
        due.sentence("one for each STATEMENT, when it begins, and for each time that a while looks at its E again.");
        fuel("", 0);
        fuel("a=1;", 1);
        fuel("row r:0;r[1]=1;in a:0;out a:0;", 3);
        fuel("if 0{a=1;}", 1);
        fuel("if 0{}else{}", 1);
        fuel("if 1{a=1;}else{}", 2);
        fuel("while 0{a=1;}", 1);
        fuel("while a<1{a=a+1;}", 3);
        fuel("while a<2{a=a+1;}", 5);
        fuel("while a<299{a=a+1;}", 599);
        fuel("while a<299{a=a+1;}b=1;", 600);
        fuel("proc p{}do p;", 1);
        fuel("proc p{a=1;}do p;do p;", 4);
        fuel("proc p{while a<1{a=a+1;}}do p;do p;", 6);
        FlowChain x = Due.compiled(Due.chain(1), "while a<300{a=a+1;}");
        due.is("601 are needed", 3, () -> x.walk(600));
        due.is("when it would look again", 300, () -> x.value(0));
        FlowChain y = Due.compiled(Due.chain(1), "while 8/(2-a){a=a+1;}");
        due.is("E is looked at with the FUEL of that", 1, () -> y.walk(5));
        due.is("not with less", 3, () -> y.walk(4));
    }

    private static void noProgram() {
        due.sentence("There is no PROGRAM: UnsupportedOperationException.");
        FlowChain x = Due.chain(2);
        due.fails("none yet", Due.UNSUPPORTED, () -> x.walk(1));
        x.code(15, 0);
        x.verify();
        due.fails("CODE alone", Due.UNSUPPORTED, () -> x.walk(1));
        due.fails("FLOW", Due.UNSUPPORTED, () -> Due.put(x, "var a:1;out a:0;").compile());
        due.fails("one that failed", Due.UNSUPPORTED, () -> x.walk(1));
        Due.compiled(x, "a=1;");
        due.is("it need not be VERIFIED", 0, () -> x.walk(1));
        x.code(15, 0);
        due.fails("not any more", Due.UNSUPPORTED, () -> x.walk(1));
        due.is("what the latest left", 1, () -> x.value(0));
        Due.compiled(x, "");
        due.is("an empty one is one", 0, () -> x.walk(1));
    }

    private static void output() {
        due.sentence("Number i, from 0, of the OUTPUT of a LABEL of the latest run or walk; there is none: NoSuchElementException.");
        FlowChain x = Due.compiled(Due.chain(2), "out 5:0;out 6:0;");
        x.verify();
        due.fails("none yet", Due.ELEMENT, () -> x.output(0, 0));
        x.run(600);
        due.is("0", 5, () -> x.output(0, 0));
        due.is("1", 6, () -> x.output(0, 1));
        int[] none = {2, 19, 20, 21, MOST};
        for (int i : none) {
            due.fails("number " + i, Due.ELEMENT, () -> x.output(0, i));
        }
        x.walk(1);
        due.is("of the latest alone: 0", 5, () -> x.output(0, 0));
        due.fails("of the latest alone: 1", Due.ELEMENT, () -> x.output(0, 1));
        due.fails("walk 0", Due.ARGUMENT, () -> x.walk(0));
        due.is("one that is refused is not the latest", 5, () -> x.output(0, 0));
        due.sentence("i below 0: IllegalArgumentException.");
        due.fails("-1", Due.ARGUMENT, () -> x.output(0, -1));
        due.fails("the least", Due.ARGUMENT, () -> x.output(0, LEAST));
        due.fails("-1 where there is none", Due.ARGUMENT, () -> x.output(1, -1));
    }

    private static void values() {
        due.sentence("i 0 .. 25 a VARIABLE, 26 + 8 r + k int k of ROW r, as the latest run or walk left them (0 without one).");
        FlowChain x = Due.chain(1);
        for (int i = 0; i <= 233; i += 233) {
            int at = i;
            due.is("without one", 0, () -> x.value(at));
        }
        Due.coded(x, 0, 9, 2, 25, 0, 0, 0, 8, 4, 0, 0, 7, 0, 6, 4, 0, 0, 0, 0, 5, 4, 1, 0, 7, 0, 4, 4, 25, 15, 0);
        x.verify();
        due.is("VERIFIED only", 0, () -> x.value(25));
        x.run(600);
        int[][] left = {{24, 0}, {25, 9}, {26, 8}, {27, 0}, {33, 6}, {34, 5}, {35, 0}, {232, 0}, {233, 4}};
        for (int[] cell : left) {
            due.is("value " + cell[0], cell[1], () -> x.value(cell[0]));
        }
        x.clear();
        due.is("clear leaves them", 4, () -> x.value(233));
        Due.compiled(x, "");
        due.is("compile leaves them", 4, () -> x.value(233));
        x.walk(1);
        due.is("walk does not", 0, () -> x.value(233));
        due.sentence("i 0 .. 233.");
        int[] wrong = {-1, 234, LEAST, MOST};
        for (int i : wrong) {
            due.fails("value " + i, Due.ARGUMENT, () -> x.value(i));
        }
        due.is("value 0", 0, () -> x.value(0));
        due.is("value 233", 0, () -> x.value(233));
    }
}
