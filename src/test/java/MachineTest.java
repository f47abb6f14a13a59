/** Promises 13 to 18: feed, drain, run, walk, output, value. */
public final class MachineTest {
    private static final Due due = new Due();

    public static void main(String[] args) {
        feed();
        limits();
        meaning();
        inputs();
        outputs();
        ends();
        operations();
        fuelOfRun();
        fuelOfWalk();
        startsAnew();
        deep();
        due.end();
    }

    private static void feed() {
        FlowChain x = new FlowChain(2);
        for (int k = 1; k <= 20; k++) {
            int due1 = k;
            due.is("how many", due1, () -> x.feed(1, 5));
        }
        due.fails("20 are there", Due.STATE, () -> x.feed(1, 5));
        due.fails("label 2", Due.ARGUMENT, () -> x.feed(2, 5));
        due.fails("label -1", Due.ARGUMENT, () -> x.feed(-1, 5));
        due.is("another label", 1, () -> x.feed(0, Integer.MIN_VALUE));
        due.is("drain", 20, () -> x.drain(1));
        due.is("drain again", 0, () -> x.drain(1));
        due.is("the other one stays", 1, () -> x.drain(0));
        due.fails("drain label 2", Due.ARGUMENT, () -> x.drain(2));
        due.fails("drain label -1", Due.ARGUMENT, () -> x.drain(-1));
        due.is("from the start", 1, () -> x.feed(1, 7));
    }

    private static void limits() {
        FlowChain x = Due.compiled(Due.chain(2), "a=1;");
        int[] bad = {0, -1, 601, Integer.MIN_VALUE, Integer.MAX_VALUE};
        for (int fuel : bad) {
            due.fails("run " + fuel, Due.ARGUMENT, () -> x.run(fuel));
            due.fails("walk " + fuel, Due.ARGUMENT, () -> x.walk(fuel));
        }
        due.fails("not VERIFIED", Due.UNSUPPORTED, () -> x.run(600));
        due.is("a walk needs none", 0, () -> x.walk(1));
        x.verify();
        due.is("VERIFIED", 0, () -> x.run(600));
        FlowChain y = Due.coded(Due.chain(2), 15, 0);
        due.fails("no PROGRAM", Due.UNSUPPORTED, () -> y.walk(600));
        y.verify();
        due.is("run needs none", 0, () -> y.run(1));
        due.fails("value -1", Due.ARGUMENT, () -> y.value(-1));
        due.fails("value 234", Due.ARGUMENT, () -> y.value(234));
        due.is("value 233", 0, () -> y.value(233));
        due.fails("output of label 2", Due.ARGUMENT, () -> y.output(2, 0));
        due.fails("output of label -1", Due.ARGUMENT, () -> y.output(-1, 0));
        due.fails("output -1", Due.ARGUMENT, () -> y.output(0, -1));
        due.fails("output least", Due.ARGUMENT, () -> y.output(0, Integer.MIN_VALUE));
        due.fails("output 0", Due.ELEMENT, () -> y.output(0, 0));
        due.fails("output most", Due.ELEMENT, () -> y.output(1, Integer.MAX_VALUE));
    }

    /** Both the machine and the walker end so, and leave that in VARIABLE a. */
    private static void both(String text, int end, int a) {
        FlowChain x = Due.compiled(Due.chain(2), text);
        due.is("walk: " + text, end, () -> x.walk(600));
        due.is("a behind walk: " + text, a, () -> x.value(0));
        x.verify();
        due.is("run: " + text, end, () -> x.run(600));
        due.is("a behind run: " + text, a, () -> x.value(0));
    }

    private static void meaning() {
        both("", 0, 0);
        both("a=1+2*3;", 0, 7);
        both("a=(1+2)*3;", 0, 9);
        both("a=1-2-3;", 0, -4);
        both("a=7/2;", 0, 3);
        both("a=(0-7)/2;", 0, -3);
        both("a=7/(0-2);", 0, -3);
        both("a=20/2/5*3;", 0, 6);
        both("a=1<2;", 0, 1);
        both("a=2<2;", 0, 0);
        both("a=3<2;", 0, 0);
        both("a=2=2;", 0, 1);
        both("a=2=3;", 0, 0);
        both("a=1+1=2;", 0, 1);
        both("a=999999999*999999999;", 0, 999999999 * 999999999);
        both("a=999999999+999999999+999999999;", 0, 999999999 * 3);
        both("a=0-999999999-999999999-999999999;", 0, -999999999 * 3);
        both("b=65536*32768;a=b/(0-1);", 0, Integer.MIN_VALUE);
        both("b=65536*32768;a=b-1;", 0, Integer.MAX_VALUE);
        both("b=65536*32768;a=b<0;", 0, 1);
        both("if 2{a=1;}else{a=2;}", 0, 1);
        both("if 0-1{a=1;}", 0, 1);
        both("if 0{a=1;}else{a=2;}", 0, 2);
        both("if 0{a=1;}", 0, 0);
        both("while a<5{a=a+2;}", 0, 6);
        both("while 0{a=1;}", 0, 0);
        both("proc p{a=a*2+1;}do p;do p;do p;", 0, 7);
        both("row r:0;r[7]=5;r[0]=7;a=r[r[0]]+r[1];", 0, 5);
        both("a=5;b=4;while 0<b{a=a*b;b=b-1;}", 0, 120);
    }

    private static void inputs() {
        FlowChain x = Due.compiled(Due.chain(2), "in a:0;in b:1;in c:0;in d:0;");
        x.feed(0, 11);
        x.feed(0, -12);
        x.feed(1, 13);
        x.verify();
        for (int round = 0; round < 2; round++) {
            due.is("run", 0, () -> x.run(600));
            int[] values = {11, 13, -12, 0};
            for (int v = 0; v < 4; v++) {
                int at = v;
                due.is("input by run", values[v], () -> x.value(at));
            }
            due.is("walk", 0, () -> x.walk(600));
            for (int v = 0; v < 4; v++) {
                int at = v;
                due.is("input by walk", values[v], () -> x.value(at));
            }
        }
        x.drain(0);
        x.feed(0, 3);
        x.run(600);
        due.is("fed anew", 3, () -> x.value(0));
        due.is("0 behind the end", 0, () -> x.value(2));
        due.is("how many stay", 2, () -> x.feed(0, 4));
    }

    private static void outputs() {
        FlowChain x = Due.compiled(Due.chain(2), "out 7:1;out 8:0;out 9:1;");
        x.verify();
        for (int round = 0; round < 2; round++) {
            due.is("done", 0, round == 0 ? () -> x.run(600) : () -> x.walk(600));
            due.is("first of 1", 7, () -> x.output(1, 0));
            due.is("second of 1", 9, () -> x.output(1, 1));
            due.is("first of 0", 8, () -> x.output(0, 0));
            due.fails("third of 1", Due.ELEMENT, () -> x.output(1, 2));
            due.fails("second of 0", Due.ELEMENT, () -> x.output(0, 1));
        }
        Due.compiled(x, "out 1:0;");
        due.is("a new program leaves them", 9, () -> x.output(1, 1));
        x.clear();
        due.is("clear leaves them", 8, () -> x.output(0, 0));
        Due.compiled(x, "");
        x.walk(1);
        due.fails("a walk empties them", Due.ELEMENT, () -> x.output(0, 0));
        FlowChain y = Due.compiled(Due.chain(2), "while 1{a=a+1;out a:1;}");
        y.verify();
        due.is("the 21st by walk", 4, () -> y.walk(600));
        due.is("a is 21", 21, () -> y.value(0));
        due.is("the 20th", 20, () -> y.output(1, 19));
        due.fails("no 21st", Due.ELEMENT, () -> y.output(1, 20));
        due.is("the 21st by run", 4, () -> y.run(600));
        due.is("a is 21 again", 21, () -> y.value(0));
        due.is("the 20th by run", 20, () -> y.output(1, 19));
        FlowChain z = Due.compiled(Due.chain(2), "while a<20{a=a+1;out a:1;}out 5:0;");
        due.is("20 are no fault", 0, () -> z.walk(600));
        due.is("another OUTPUT", 5, () -> z.output(0, 0));
    }

    private static void ends() {
        both("a=1;a=a/b;a=3;", 1, 1);
        both("a=1;if 1/0{a=2;}else{a=3;}a=4;", 1, 1);
        both("a=1;while 1/0{a=2;}a=4;", 1, 1);
        both("a=2;while 8/a{a=a-1;}a=9;", 1, 0);
        both("a=1;out 1/0:0;a=2;", 1, 1);
        both("row r:0;a=1;a=r[8];", 2, 1);
        both("row r:0;a=1;a=r[0-1];", 2, 1);
        both("row r:0;a=1;r[8]=2;a=3;", 2, 1);
        both("row r:0;a=1;r[0-1]=2;a=3;", 2, 1);
        // the index is asked for when the ROW is set, behind all its Es
        both("row r:0;a=1;r[8]=1/0;", 1, 1);
        both("row r:0;a=1;r[1/0]=r[8];", 1, 1);
        both("row r:0;a=1;r[r[8]]=1/0;", 2, 1);
        both("row r:0;a=1;a=r[8]+1/0;", 2, 1);
        both("row r:0;a=1;a=1/0+r[8];", 1, 1);
        both("a=1;while 1{}", 3, 1);
    }

    private static int runs(FlowChain x, int... pairs) {
        x.clear();
        Due.coded(x, pairs);
        x.verify();
        return x.run(600);
    }

    private static void operations() {
        FlowChain x = Due.chain(3);
        due.is("SUB p q", 0, () -> runs(x, 0, 9, 0, 4, 6, 99, 2, 3, 15, 0));
        due.is("9 - 4", 5, () -> x.value(3));
        due.is("DIV p q", 0, () -> runs(x, 0, 9, 0, 4, 8, 0, 2, 3, 15, 0));
        due.is("9 / 4", 2, () -> x.value(3));
        due.is("LESS p q", 0, () -> runs(x, 0, 9, 0, 4, 9, 0, 2, 3, 15, 0));
        due.is("9 < 4", 0, () -> x.value(3));
        due.is("TO i, v", 0, () -> runs(x, 0, 7, 0, 4, 4, 25, 15, 0));
        due.is("int 7 of ROW 25", 4, () -> x.value(233));
        due.is("AT i", 0, () -> runs(x, 0, 0, 0, 6, 4, 1, 0, 0, 3, 1, 2, 25, 15, 0));
        due.is("int 0 of ROW 1", 6, () -> x.value(25));
        due.is("int 0 of ROW 1 by value", 6, () -> x.value(34));
        due.is("ZERO of 0", 0, () -> runs(x, 0, 0, 11, 4, 0, 1, 2, 0, 15, 0));
        due.is("it was left out", 0, () -> x.value(0));
        due.is("ZERO of -1", 0, () -> runs(x, 0, -1, 11, 4, 0, 1, 2, 0, 15, 0));
        due.is("it was done", 1, () -> x.value(0));
        due.is("a HALT upon a stack", 0, () -> runs(x, 0, 1, 0, 2, 15, 0));
        due.is("PUSH of any int", 0, () -> runs(x, 0, Integer.MIN_VALUE, 0, -1, 8, 0, 14, 2, 15, 0));
        due.is("the least by -1", Integer.MIN_VALUE, () -> x.output(2, 0));
        x.feed(2, 40);
        due.is("IN and OUT", 0, () -> runs(x, 13, 2, 13, 2, 5, 0, 14, 2, 15, 0));
        due.is("40 and 0 behind the end", 40, () -> x.output(2, 0));
        int[] high = new int[62];
        for (int k = 0; k < 30; k++) {
            high[2 * k + 1] = k;
        }
        high[60] = 15;
        due.is("a stack of 30", 0, () -> runs(x, high));
        due.is("a fault upon a stack", 1, () -> runs(x, 0, 5, 0, 1, 0, 0, 8, 0, 15, 0));
        due.is("the stack is empty then", 0, () -> runs(x, high));
        high[58] = 2;
        high[59] = 7;
        due.is("30 PUSHes but one", 0, () -> runs(x, high));
        due.is("the last of them", 28, () -> x.value(7));
    }

    private static void fuelOfRun() {
        FlowChain x = Due.compiled(Due.chain(2), "a=1;b=2;");
        x.verify();
        for (int fuel = 1; fuel <= 6; fuel++) {
            int f = fuel;
            due.is("run " + fuel, fuel < 5 ? 3 : 0, () -> x.run(f));
            due.is("FUEL of run " + fuel, Math.min(5, fuel), () -> x.count(6));
            due.is("a of run " + fuel, fuel < 2 ? 0 : 1, () -> x.value(0));
            due.is("b of run " + fuel, fuel < 4 ? 0 : 2, () -> x.value(1));
        }
        FlowChain y = Due.compiled(Due.chain(2), "a=1/0;");
        y.verify();
        due.is("a fault with the last FUEL", 1, () -> y.run(3));
        due.is("its INSTRUCTION is counted", 3, () -> y.count(6));
        due.fails("out of range", Due.ARGUMENT, () -> y.run(0));
        due.is("a call that throws leaves it", 3, () -> y.count(6));
    }

    private static void fuel(String text, int taken) {
        FlowChain x = Due.compiled(Due.chain(2), text);
        due.is("walk: " + text, 0, () -> x.walk(600));
        due.is("FUEL: " + text, taken, () -> x.count(6));
        if (taken > 0) {
            due.is("just enough: " + text, 0, () -> x.walk(taken));
        }
        if (taken > 1) {
            due.is("one less: " + text, 3, () -> x.walk(taken - 1));
            due.is("all is taken: " + text, taken - 1, () -> x.count(6));
        }
    }

    private static void fuelOfWalk() {
        fuel("", 0);
        fuel("a=1;", 1);
        fuel("a=1;out a:0;in a:0;", 3);
        fuel("if 1{}", 1);
        fuel("if 1{a=1;}", 2);
        fuel("if 0{a=1;}else{a=1;b=1;}", 3);
        fuel("while 0{}", 1);
        fuel("while a<1{a=1;}", 3);
        fuel("while a<3{a=a+1;}", 7);
        fuel("while a<2{a=a+1;b=0;while b<2{b=b+1;}}", 1 + 2 * (2 + 5 + 1));
        fuel("proc p{a=1;b=1;}do p;", 3);
        fuel("proc p{}proc q{do p;do p;}do q;do p;", 4);
        FlowChain x = Due.compiled(Due.chain(2), "a=1;while a{a=a+1;}");
        due.is("it never ends", 3, () -> x.walk(600));
        due.is("a with 600", 300, () -> x.value(0));
        due.is("it never ends with 3", 3, () -> x.walk(3));
        due.is("a with 3", 2, () -> x.value(0));
        due.is("it never ends with 4", 3, () -> x.walk(4));
        due.is("a with 4", 2, () -> x.value(0));
        due.is("it never ends with 5", 3, () -> x.walk(5));
        due.is("a with 5", 3, () -> x.value(0));
        FlowChain y = Due.compiled(Due.chain(2), "a=1;b=1/0;");
        due.is("a fault with the last FUEL", 1, () -> y.walk(2));
        due.is("its STATEMENT is counted", 2, () -> y.count(6));
    }

    private static void deep() {
        String open = Due.times("if1{", 7);
        String shut = Due.times("}", 8);
        both("proc b{" + open + "a=2;" + shut + "proc c{" + open + "do b;" + shut + "proc d{" + open + "do c;" + shut
                + "if1{" + open + "do d;" + shut + "x=1;", 0, 2);
        both("if0{}else{if0{}else{if0{}else{if0{}else{if0{}else{if0{}else{if0{}else{if0{}else{a=5;}}}}}}}}", 0, 5);
        both(Due.times("while a<1{", 8) + "a=1;" + shut, 0, 1);
    }

    private static void startsAnew() {
        FlowChain x = Due.compiled(Due.chain(2), "row r:0;a=a+1;r[2]=r[2]+a;");
        x.verify();
        int cell = 26 + 8 * 17 + 2;
        for (int round = 0; round < 4; round++) {
            due.is("done", 0, round % 2 == 0 ? () -> x.run(600) : () -> x.walk(600));
            due.is("a from 0", 1, () -> x.value(0));
            due.is("r from 0", 1, () -> x.value(cell));
        }
        Due.compiled(x, "b=1;");
        due.is("a new program leaves a", 1, () -> x.value(0));
        x.walk(9);
        due.is("a walk sets it to 0", 0, () -> x.value(0));
        due.is("and the ROW", 0, () -> x.value(cell));
        due.is("and b is set", 1, () -> x.value(1));
        due.fails("no run of what is not VERIFIED", Due.UNSUPPORTED, () -> x.run(9));
        due.is("which leaves all", 1, () -> x.value(1));
    }
}
