/** Of promise 6, compile: the CODE that it makes; and promise 19, instruction. */
public final class CompileTest {
    private static final Due due = new Due();

    public static void main(String[] args) {
        statements();
        expressions();
        jumps();
        procs();
        tooLong();
        whatItSets();
        instruction();
        due.end();
    }

    private static void made(String text, int... pairs) {
        FlowChain x = Due.put(Due.chain(6), text);
        due.is("answer: " + text, pairs.length / 2, x::compile);
        due.code(text, x, pairs);
        due.told(text, -1, -1, x);
    }

    private static void statements() {
        made("", 15, 0);
        made("z=7;", 0, 7, 2, 25, 15, 0);
        made("row r:0;r[3]=b;", 0, 3, 1, 1, 4, 17, 15, 0);
        made("row r:0;a=2;r[3]=b;r[1]=4;", 0, 2, 2, 0, 0, 3, 1, 1, 4, 17, 0, 1, 0, 4, 4, 17, 15, 0);
        made("in c:4;", 13, 4, 2, 2, 15, 0);
        made("out a:5;", 1, 0, 14, 5, 15, 0);
        made("a=999999999;", 0, 999999999, 2, 0, 15, 0);
    }

    private static void expressions() {
        made("a=1+2*3;", 0, 1, 0, 2, 0, 3, 7, 0, 5, 0, 2, 0, 15, 0);
        made("a=(1+2)*3;", 0, 1, 0, 2, 5, 0, 0, 3, 7, 0, 2, 0, 15, 0);
        made("a=1-2-3;", 0, 1, 0, 2, 6, 0, 0, 3, 6, 0, 2, 0, 15, 0);
        made("a=8/4/2*b;", 0, 8, 0, 4, 8, 0, 0, 2, 8, 0, 1, 1, 7, 0, 2, 0, 15, 0);
        made("a=b<c+1;", 1, 1, 1, 2, 0, 1, 5, 0, 9, 0, 2, 0, 15, 0);
        made("a=b+1=c;", 1, 1, 0, 1, 5, 0, 1, 2, 10, 0, 2, 0, 15, 0);
        made("row r:0;a=r[r[b]+1];", 1, 1, 3, 17, 0, 1, 5, 0, 3, 17, 2, 0, 15, 0);
        made("row r:0;r[r[0]]=r[1];", 0, 0, 3, 17, 0, 1, 3, 17, 4, 17, 15, 0);
    }

    private static void jumps() {
        made("if a{b=1;}", 1, 0, 11, 4, 0, 1, 2, 1, 15, 0);
        made("if a{}", 1, 0, 11, 2, 15, 0);
        made("if a{}else{}", 1, 0, 11, 3, 12, 3, 15, 0);
        made("if a{b=1;}else{b=2;}", 1, 0, 11, 5, 0, 1, 2, 1, 12, 7, 0, 2, 2, 1, 15, 0);
        made("while a{}", 1, 0, 11, 3, 12, 0, 15, 0);
        made("b=1;while a<3{a=a+1;}c=1;", 0, 1, 2, 1, 1, 0, 0, 3, 9, 0, 11, 11, 1, 0, 0, 1, 5, 0, 2, 0, 12, 2,
                0, 1, 2, 2, 15, 0);
        made("while a{if b{}else{while c{}}}", 1, 0, 11, 9, 1, 1, 11, 5, 12, 8, 1, 2, 11, 8, 12, 5, 12, 0, 15, 0);
    }

    private static void procs() {
        made("proc p{a=1;}", 15, 0);
        made("proc p{a=1;}do p;do p;", 0, 1, 2, 0, 0, 1, 2, 0, 15, 0);
        made("proc p{if a{}}do p;do p;", 1, 0, 11, 2, 1, 0, 11, 4, 15, 0);
        made("proc p{while a{}}proc q{do p;do p;}if 1{do q;}",
                0, 1, 11, 8, 1, 0, 11, 5, 12, 2, 1, 0, 11, 8, 12, 5, 15, 0);
        made("proc p{}proc q{do p;}do q;", 15, 0);
    }

    private static void tooLong() {
        FlowChain x = Due.put(Due.chain(2), Due.times("a=1;", 31));
        due.is("62 and HALT", 63, x::compile);
        FlowChain y = Due.put(Due.chain(2), Due.times("a=1;", 30) + "if a{}else{}");
        due.is("63 and HALT", 64, y::compile);
        due.is("the last is HALT", 15, () -> y.instruction(63, false));
        FlowChain z = Due.compiled(Due.chain(2), "var b:1;a=3;");
        z.verify();
        Due.put(z, Due.times("a=1;", 32));
        due.fails("64 and HALT", Due.BOUNDS, z::compile);
        due.told("64 and HALT", 64, 10, z);
        due.is("the text is empty", 0, () -> z.count(2));
        due.code("the code stays", z, 0, 3, 2, 0, 15, 0);
        due.is("VERIFIED stays", 1, () -> z.count(4));
        due.is("PROGRAM stays", 1, () -> z.count(5));
        due.is("FIXED stays", 1, () -> z.map(2, 1));
        Due.put(z, Due.times("a=1;", 60));
        due.fails("120 and HALT", Due.BOUNDS, z::compile);
        due.told("120 and HALT", 64, 10, z);
        doubling(z);
        again(z);
    }

    /** What one text needs is free for the next one. */
    private static void again(FlowChain z) {
        for (int round = 0; round < 8; round++) {
            Due.put(z, Due.times("a=b+c*d-e;", 6));
            due.is("a long text again", 49, z::compile);
            due.is("its last operation", 6, () -> z.instruction(46, false));
            due.is("its last x", 4, () -> z.instruction(45, true));
        }
    }

    /** Each PROC does the one before it four times: 65536 times in all. */
    private static void doubling(FlowChain z) {
        StringBuilder text = new StringBuilder("proc a{}");
        for (char p = 'b'; p <= 'i'; p++) {
            text.append("proc ").append(p).append('{').append(Due.times("do " + (char) (p - 1) + ";", 4)).append('}');
        }
        Due.put(z, text.substring(0, text.length() - 28) + "do h;");
        due.is("many empty BLOCKS", 1, z::compile);
        due.is("as many as there is FUEL for", 3, () -> z.walk(600));
        Due.put(z, text.toString().replace("a{}", "a{x=1;}").substring(0, text.length() - 28 + 4) + "do h;");
        due.fails("far too long", Due.BOUNDS, z::compile);
        due.told("far too long", 64, 10, z);
    }

    private static void whatItSets() {
        FlowChain x = Due.chain(3);
        x.fix(0, false, 2);
        x.fix(1, true, 2);
        x.fix(3, false, 1);
        Due.coded(x, 15, 0, 15, 0);
        x.verify();
        Due.put(x, "var b:1;row c:2;row a:0;d=1;");
        due.is("the code is the program's alone", 3, x::compile);
        due.is("nothing is VERIFIED", 0, () -> x.count(4));
        due.is("there is a PROGRAM", 1, () -> x.count(5));
        due.fails("no maps", Due.STATE, () -> x.map(0, 0));
        due.fails("no regions", Due.STATE, () -> x.region(0, -1));
        int[][] variables = {{0, -1}, {1, 1}, {2, -1}, {3, -1}};
        for (int[] v : variables) {
            due.is("FIXED " + v[0], v[1], () -> x.fix(v[0], false, -1));
        }
        int[][] rows = {{0, 0}, {1, -1}, {2, 2}, {3, -1}};
        for (int[] r : rows) {
            due.is("ROW " + r[0], r[1], () -> x.fix(r[0], true, -1));
        }
    }

    private static void instruction() {
        FlowChain x = Due.coded(new FlowChain(1), 5, 77, 0, Integer.MIN_VALUE, 15, -3);
        due.code("any x", x, 5, 77, 0, Integer.MIN_VALUE, 15, -3);
        int[] bad = {-1, 3, 64, Integer.MIN_VALUE, Integer.MAX_VALUE};
        for (int i : bad) {
            due.fails("operation " + i, Due.ELEMENT, () -> x.instruction(i, false));
            due.fails("x " + i, Due.ELEMENT, () -> x.instruction(i, true));
        }
        x.clear();
        due.fails("none is left", Due.ELEMENT, () -> x.instruction(0, false));
    }
}
