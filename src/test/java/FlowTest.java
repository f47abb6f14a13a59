/** Of promise 6, compile: FLOWS, and where they fail. */
public final class FlowTest {
    private static final Due due = new Due();

    public static void main(String[] args) {
        plain();
        rows();
        depth();
        inputsAndOutputs();
        levels();
        branches();
        loops();
        procs();
        sideBySide();
        otherBottom();
        order();
        afterFailure();
        due.end();
    }

    /** Labels 0, 1, 2, each below the next; no BELOW fails. */
    private static void good(String text) {
        FlowChain x = Due.put(Due.chain(3), text);
        int size = x.compile();
        due.is("good: " + text, size, () -> x.count(3));
        due.told("good: " + text, -1, -1, x);
    }

    private static void bad(FlowChain x, String marked) {
        int at = marked.indexOf('!');
        Due.put(x, marked.substring(0, at) + marked.substring(at + 1));
        due.fails("bad: " + marked, Due.UNSUPPORTED, x::compile);
        due.told("bad: " + marked, at, 9, x);
        due.is("the text is empty: " + marked, 0, () -> x.count(2));
    }

    /** The same labels; it fails at the mark ! in it, which is not part of the text. */
    private static void bad(String marked) {
        bad(Due.chain(3), marked);
    }

    private static void plain() {
        good("var a:1;a=1;");
        good("var a:1;var b:2;b=a;");
        good("var a:1;var b:1;b=a;");
        bad("var a:1;var b:0;!b=a;");
        bad("var a:1;var b:0;b=1; !b=1+2*(3<a);");
        good("var a:2;b=a;b=1;out b:0;");
        bad("var a:2;b=a;!out b:1;");
        good("var a:2;b=a;out b:2;");
        bad("var a:1;b=a;c=b;d=c;!out 0*d:0;");
        good("out 5:0;");
        good("out z:0;");
        bad("var a:2;b=a;b=b;!out b:0;");
        bad("var a:2;var b:1;a=2;c=a;!b=c;");
    }

    private static void rows() {
        good("row r:1;r[0]=1;");
        good("row r:1;var a:1;r[a]=a;");
        bad("row r:1;var a:2;!r[a]=1;");
        bad("row r:1;var a:2;!r[1]=a;");
        bad("row r:1;!out r[0]:0;");
        good("row r:1;out r[0]:1;");
        bad("row r:1;var a:2;!out r[a]:1;");
        bad("row r:0;var a:2;!out r[r[a]]:1;");
        bad("row r:1;row s:0;!s[0]=r[0];");
        bad("row r:1;row s:0;!s[r[0]]=0;");
        good("row r:1;row s:2;s[r[0]]=r[1];");
        good("row r:1;a=r[0];a=0;out a:0;");
        bad("row a:1;!out a[0]:0;");
        bad("row z:1;!out z[0]:0;");
        good("row a:1;in b:1;a[0]=b;");
    }

    /** As deep as 240 signs go: IFS within IFS, and PROCS within PROCS. */
    private static void depth() {
        String open = Due.times("if1{", 7);
        String shut = Due.times("}", 8);
        String procs = "proc b{" + open + "do a;" + shut + "proc c{" + open + "do b;" + shut;
        bad("var h:1;proc a{" + open + "!out h:0;" + shut + procs + "if1{" + open + "do c;" + shut);
        bad("var h:1;proc a{" + Due.times("if1{", 6) + "if h{x=1;}" + shut.substring(1) + procs
                + open + "do c;" + shut.substring(1) + "!out x:0;");
    }

    private static void inputsAndOutputs() {
        good("in a:2;out a:2;");
        bad("in a:2;!out a:1;");
        good("in a:2;in a:0;out a:0;");
        good("var a:2;in a:1;");
        good("var a:1;in a:1;");
        bad("var a:1;!in a:2;");
        bad("var a:1;in a:1;!out a:0;");
        bad("var a:2;in a:0;!out a:0;");
        good("var h:1;if h{in a:1;}");
        bad("var h:1;if h{!in a:0;}");
        bad("var h:2;var x:2;if h{!in x:1;}");
    }

    private static void levels() {
        bad("var h:1;if h{!out 1:0;}");
        good("var h:1;if h{out 1:1;}out 1:0;");
        bad("var h:1;if h{}else{!out 1:0;}");
        bad("var h:1;while h{!out 1:0;}");
        bad("var h:1;var a:0;if h{!a=1;}");
        bad("var h:1;row r:0;if h{!r[0]=1;}");
        bad("var h:1;if h{a=1;}!out a:0;");
        bad("var h:1;if h{if 0{!out 1:0;}}");
        bad("var h:1;if 0{if h{}!out h:0;}");
        good("var h:1;if 0{if h{}out 0:0;}");
        bad("var h:1;var k:2;if h{if k{!out 0:1;}}");
        bad("var h:1;var k:2;if k{if h{!out 0:1;}}");
    }

    private static void branches() {
        bad("var h:1;if 0{a=h;}!out a:0;");
        bad("var h:1;if 0{}else{a=h;}!out a:0;");
        bad("var h:1;a=h;if 0{a=0;}!out a:0;");
        bad("var h:1;a=h;if 0{}else{a=0;}!out a:0;");
        good("var h:1;a=h;if 0{a=0;}else{a=1;}out a:0;");
        good("var h:1;a=h;if 0{a=0;}else{a=1;}if a{out a:0;}");
        good("var h:1;if 0{a=h;}else{out a:0;}");
        good("var h:1;a=h;if 0{a=0;out a:0;}else{out a:1;}");
        bad("var h:1;if 0{a=h;}else{b=h;}!out b:0;");
        bad("var h:2;if 0{if 0{a=h;}else{}}else{}!out a:1;");
    }

    private static void loops() {
        bad("var h:1;while 0{!out a:0;a=h;}");
        bad("var h:1;while 0{a=b;b=c;!out a:0;c=h;}");
        bad("var h:1;while 0{a=b;b=c;c=d;d=h;}!out a:0;");
        bad("var h:1;while 0{a=b;b=c;c=d;d=h;}!out d:0;");
        bad("var h:1;while a{!out 1:0;a=h;}");
        good("var h:1;while 0{a=h;a=0;}out a:0;");
        bad("var h:1;a=h;while 0{a=0;}!out a:0;");
        good("var h:1;a=h;while 0{a=0;out a:0;}");
        bad("var h:1;while a{while b{!out 1:0;}b=h;}");
        bad("var h:1;while a{while b{a=0;b=h;}}!out a:0;");
        bad("var h:2;while a{b=0;a=h;}!out b:1;");
        good("while a{a=a+1;out a:0;}out a:0;");
    }

    private static void procs() {
        good("var h:1;proc p{out h:0;}");
        bad("var h:1;proc p{!out h:0;}do p;");
        bad("var h:1;proc p{!out a:0;}do p;a=h;do p;");
        good("var h:1;proc p{out a:0;}do p;a=h;");
        bad("var h:1;proc p{a=h;}do p;!out a:0;");
        good("var h:1;proc p{a=h;}proc q{a=0;}do p;do q;out a:0;");
        bad("var h:1;proc p{!out 1:0;}if h{do p;}");
        bad("var h:1;proc p{a=1;}if h{do p;}!out a:0;");
        bad("var h:1;proc p{!out a:0;}proc q{do p;a=h;}do q;do q;");
        bad("var h:1;proc p{b=a;}proc q{a=h;do p;}while 0{do q;}!out b:0;");
    }

    private static void sideBySide() {
        bad(Due.diamond(), "var a:1;var b:2;!out a+b:1;");
        bad(Due.diamond(), "var a:1;var b:2;!out a+b:2;");
        bad(Due.diamond(), "var a:1;!out a:2;");
        FlowChain x = Due.diamond();
        due.is("the JOIN of both", 5, () -> Due.put(x, "var a:1;var b:2;out a+b:3;").compile());
        bad(Due.diamond(), "var a:1;var b:2;if a{c=b;}!out c:2;");
        bad(Due.diamond(), "var a:1;var b:2;if a{!in b:2;}");
    }

    private static void otherBottom() {
        FlowChain x = new FlowChain(3);
        x.below(2, 0);
        x.below(0, 1);
        x.seal();
        due.is("BOTTOM 2 flows to 2", 3, () -> Due.put(x, "out a:2;").compile());
        bad(x, "var a:0;b=a;!out b:2;");
        bad(x, "row r:1;!out r[0]:0;");
        due.is("BOTTOM flows to all", 7, () -> Due.put(x, "out a:0;out a:1;out 1:1;").compile());
    }

    private static void order() {
        bad("var h:1;!out h:0;out h:0;");
        bad("var h:1;proc p{out h:0;}!out h:0;do p;");
        // the first time, as it is gone through: the second STATEMENT fails in an earlier round than the first
        bad("var h:1;while 0{out a:0;!out h:0;a=h;}");
        bad("var h:1;while 0{!out a:0;a=h;}out h:0;");
        bad("var h:1;if 0{!out h:0;}else{out h:0;}");
        // FLOW comes before TOO LONG, SYNTAX before both
        bad("var h:1;" + Due.times("a=1+1;", 20) + "!out h:0;");
        FlowChain x = Due.put(Due.chain(3), "var h:1;out h:0;a=");
        due.fails("SYNTAX comes first", Due.ELEMENT, x::compile);
        due.told("SYNTAX comes first", 18, 8, x);
    }

    private static void afterFailure() {
        FlowChain x = Due.compiled(Due.chain(3), "var b:1;row r:2;a=1;");
        x.verify();
        bad(x, "var b:2;!out b:0;");
        due.code("the code stays", x, 0, 1, 2, 0, 15, 0);
        due.is("VERIFIED stays", 1, () -> x.count(4));
        due.is("PROGRAM stays", 1, () -> x.count(5));
        due.is("FIXED stays", 1, () -> x.map(0, 1));
        due.is("and can be told", 1, () -> x.fix(1, false, -1));
        due.is("ROWS' LABELS stay", 2, () -> x.fix(17, true, -1));
    }
}
