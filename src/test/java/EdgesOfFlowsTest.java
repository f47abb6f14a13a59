/** Sentences that name edges: of FLOWS in the terms, and of promise 6 what it says of FLOW, TOO LONG and what stays. */
public final class EdgesOfFlowsTest {
    private static final Due due = new Due();

    public static void main(String[] args) {
        atFirst();
        expressions();
        levels();
        settings();
        rows();
        outputs();
        inputs();
        branches();
        loops();
        longLoops();
        procs();
        firstTime();
        tooLong();
        kinds();
        stays();
        becomes();
        answers();
        due.end();
    }

    /** Labels 0, 1, 2, each below the next. */
    private static void good(String text) {
        good(Due.chain(3), text);
    }

    private static void good(FlowChain x, String text) {
        Due.put(x, text);
        due.holds("good: " + text, !Due.outcome(x::compile).contains("Exception"));
        due.told("good: " + text, -1, -1, x);
    }

    /** FLOW at the mark ! in it, which is not part of the text. */
    private static void bad(String marked) {
        bad(Due.chain(3), marked);
    }

    private static void bad(FlowChain x, String marked) {
        int at = marked.indexOf('!');
        Due.put(x, marked.substring(0, at) + marked.substring(at + 1));
        due.fails("bad: " + marked, Due.UNSUPPORTED, x::compile);
        due.told("bad: " + marked, at, 9, x);
    }

    /** 2 is BOTTOM, 0 the highest. */
    private static FlowChain upsideDown() {
        FlowChain x = new FlowChain(3);
        x.below(2, 1);
        x.below(1, 0);
        x.seal();
        return x;
    }

    private static void atFirst() {
        due.sentence("at each place a VARIABLE has a LABEL, a FIXED one its own, others BOTTOM at first; a ROW has its own.");
        good("out a:0;out z:0;");
        bad("var a:1;!out a:0;");
        bad("var z:1;!out z:0;");
        bad("row a:1;!out a[0]:0;");
        bad("row z:1;!out z[0]:0;");
        good("row a:1;out b:0;");
        good("var a:0;out a:0;");
        good(upsideDown(), "out a:2;");
        bad(upsideDown(), "var a:1;!out a:2;");
        bad(upsideDown(), "row a:0;!out a[1]:1;");
        good(upsideDown(), "row a:2;out a[1]:2;");
        bad("var a:1;a=0;!out a:0;");
        bad("var a:2;in a:0;!out a:1;");
        FlowChain fixed = Due.chain(3);
        fixed.fix(0, false, 2);
        good(fixed, "out a:0;");
    }

    private static void expressions() {
        due.sentence("E has the JOIN of those of all VARIABLES, ROWS, indices in it (BOTTOM without any).");
        good("out 1+2*(3<4):0;");
        good(upsideDown(), "out 7:2;");
        String[] signs = {"+", "-", "*", "/", "<", "="};
        for (String sign : signs) {
            bad("var h:1;!out h" + sign + "1:0;");
            bad("var h:1;!out 1" + sign + "h:0;");
            good("var h:1;out h" + sign + "1:1;");
        }
        bad("var h:1;!out 0*h:0;");
        bad("var h:1;!out h-h:0;");
        bad("var h:1;!out ((((((((h)))))))):0;");
        bad("var h:1;!out 1+1+1+1+h:0;");
        bad("var h:1;row r:0;!out r[h]:0;");
        bad("var h:1;row r:0;!out r[r[r[h]]]:0;");
        bad("row q:1;row r:0;!out r[q[0]]:0;");
        good("row q:1;row r:0;out r[r[0]]:0;");
        bad("var h:1;!out h+l:0;");
        bad("var h:1;!out l+h:0;");
        bad("var h:1;!out l+h+l:0;");
        bad("var h:1;row r:0;!out h+r[0]:0;");
        bad("var h:1;row r:0;!out r[h]+r[l]:0;");
        bad("row q:1;row r:0;!out q[0]+r[0]:0;");
        bad("row q:1;!out q[0]+l:0;");
        bad(Due.diamond(), "var a:1;var b:2;!out a+b:1;");
        bad(Due.diamond(), "var a:1;var b:2;!out b+a:2;");
        good(Due.diamond(), "var a:1;var b:2;out a+b:3;");
        bad(Due.diamond(), "var a:1;row r:2;!out r[a]:2;");
    }

    private static void levels() {
        due.sentence("A STATEMENT has a LEVEL, BOTTOM outside; the BLOCKS of if and while have the JOIN of its LEVEL and its E.");
        good("a=1;out a:0;");
        bad("var h:1;if h{!out 1:0;}");
        bad("var h:1;if h{}else{!out 1:0;}");
        bad("var h:1;while h{!out 1:0;}");
        good("var h:1;if h{}out 1:0;");
        good("var h:1;while h{}out 1:0;");
        good("if a{out 1:0;}");
        bad(Due.diamond(), "var a:1;var b:2;if a{if b{!out 1:2;}}");
        bad(Due.diamond(), "var a:1;var b:2;if b{while a{!out 1:2;}}");
        good(Due.diamond(), "var a:1;var b:2;if a{if b{out 1:3;}out 1:1;}out 1:0;");
        bad("var h:2;if 1{if 1{if 1{if h{if 1{if 1{if 1{if 1{!out 1:1;}}}}}}}}");
        good(upsideDown(), "if a{out 1:2;}");
    }

    private static void settings() {
        due.sentence("x = E: d BELOW a FIXED x's LABEL, else d is x's from then on.");
        good("var a:1;a=1;");
        good("var a:1;var b:1;b=a;");
        good("var a:1;var b:2;b=a;");
        bad("var a:2;var b:1;!b=a;");
        bad("var a:1;var b:0;!b=a;");
        bad(Due.diamond(), "var a:1;var b:2;!b=a;");
        bad("var h:1;var a:0;if h{!a=0;}");
        bad("var h:1;b=h;!out b:0;");
        good("var h:1;b=h;b=0;out b:0;");
        bad("var h:1;if h{b=0;}!out b:0;");
        bad("var h:1;if h{b=0;b=1;}!out b:0;");
        bad("var h:1;z=h;!out z:0;");
        good("var h:1;z=h;out y:0;");
        good("var h:1;b=h;b=b*0;b=0;out b:0;");
        bad("var h:1;b=h;b=b*0;!out b:0;");
    }

    private static void rows() {
        due.sentence("ROW: d BELOW its LABEL.");
        good("row r:1;var h:1;r[h]=h;");
        bad("row r:0;var h:1;!r[h]=0;");
        bad("row r:0;var h:1;!r[0]=h;");
        bad("row r:0;var h:1;if h{!r[0]=0;}");
        bad("row r:1;var h:2;!r[r[h]]=0;");
        good("row r:2;var h:1;if h{r[0]=0;}");
        bad(Due.diamond(), "row r:1;var h:2;!r[0]=h;");
        bad("row r:0;row q:1;!r[0]=q[0];");
        good("row r:1;r[0]=1;out 1:0;");
    }

    private static void outputs() {
        due.sentence("out: d BELOW its LABEL.");
        good("var h:1;out h:1;");
        good("var h:1;out h:2;");
        bad("var h:1;!out h:0;");
        bad("var h:2;!out h:1;");
        bad("var h:2;if h{!out 1:1;}");
        bad(Due.diamond(), "var h:1;!out h:2;");
    }

    private static void inputs() {
        due.sentence("in: LEVEL BELOW its LABEL, that BELOW a FIXED x's, else it is x's from then on.");
        good("in a:0;");
        good("in a:2;");
        good("var h:1;if h{in a:1;}");
        bad("var h:1;if h{!in a:0;}");
        good("var a:1;in a:1;");
        good("var a:1;in a:0;");
        bad("var a:1;!in a:2;");
        bad(Due.diamond(), "var a:1;!in a:2;");
        bad("in a:1;!out a:0;");
        good("in a:1;out a:1;");
        good("in a:2;in a:0;out a:0;");
        good("var h:1;a=h;in a:0;out a:0;");
        bad("var h:1;if h{in a:1;}!out a:0;");
    }

    private static void branches() {
        due.sentence("if: behind it each VARIABLE has the JOIN of what it has behind both BLOCKS (without else: behind the one, and before).");
        bad("var h:1;if 0{a=h;}else{}!out a:0;");
        bad("var h:1;if 0{}else{a=h;}!out a:0;");
        bad("var h:1;if 0{a=h;}!out a:0;");
        bad("var h:1;a=h;if 0{a=0;}!out a:0;");
        good("var h:1;a=h;if 0{a=0;}else{a=0;}out a:0;");
        bad("var h:1;a=h;if 0{a=0;}else{}!out a:0;");
        bad("var h:1;a=h;if 0{}else{a=0;}!out a:0;");
        good("var h:1;if 0{a=h;a=0;}else{}out a:0;");
        good("var h:1;if 0{a=h;}else{out a:0;}");
        bad(Due.diamond(), "var a:1;var b:2;if 0{c=a;}else{c=b;}!out c:1;");
        bad(Due.diamond(), "var a:1;var b:2;if 0{c=a;}else{c=b;}!out c:2;");
        good(Due.diamond(), "var a:1;var b:2;if 0{c=a;}else{c=b;}out c:3;");
        bad("var h:1;if 0{if 0{if 0{a=h;}}}!out a:0;");
        good("var h:1;if 0{a=h;if 0{b=h;}}else{out a+b:0;}");
        bad("var h:1;if 0{a=h;}else{if 0{}else{}}!out a:0;");
        bad("var h:1;if 0{if 0{}else{a=h;}}else{if 0{}}!out a:0;");
        good("var h:1;a=h;if 0{if 0{a=0;}else{a=0;}}else{if 0{a=0;}else{a=0;}}out a:0;");
        bad("var h:1;if 0{z=h;}!out z:0;");
    }

    private static void loops() {
        due.sentence("while: what was before it, JOINED again and again with what the BLOCK makes of that"
                + " (E, too, with what then is) until nothing changes; so it is behind it.");
        bad("var h:1;while 0{a=h;}!out a:0;");
        bad("var h:1;a=h;while 0{a=0;}!out a:0;");
        good("var h:1;while 0{a=h;a=0;}out a:0;");
        bad("var h:1;while 0{!out a:0;a=h;}");
        bad("var h:1;while a{!out 1:0;a=h;}");
        bad("var h:1;while a{b=1;a=h;}!out b:0;");
        good("var h:1;while a{a=h;}out 1:0;");
        good("var h:1;a=h;while 0{a=0;out a:0;}");
        bad("var h:1;while 0{while 0{!out a:0;}a=h;}");
        bad("var h:1;while 0{while b{!out 1:0;}b=a;a=h;}");
        good("while a{a=a+1;out a:0;}out a:0;");
        bad("var h:1;a=h;while 0{a=0;if 0{}}!out a:0;");
        bad("var h:1;a=h;while 0{a=0;while 0{}}!out a:0;");
        bad("var h:1;a=h;if 0{while 0{a=0;}}else{a=0;}!out a:0;");
        bad(Due.diamond(), "var p:1;var q:2;while a{a=p;if b{!out 1:1;}b=q;}");
    }

    /** A LABEL goes from the last VARIABLE to the first, one each round. */
    private static void longLoops() {
        StringBuilder chain = new StringBuilder();
        for (char v = 'a'; v < 'y'; v++) {
            chain.append(v).append('=').append((char) (v + 1)).append(';');
        }
        bad("var z:1;while 0{" + chain + "y=z;}!out a:0;");
        bad("var z:1;while a{!out 0:0;" + chain + "y=z;}");
        bad("var z:1;while 0{" + chain + "y=z;}!out y:0;");
        bad("var z:1;while 0{!out a:0;" + chain + "y=z;}");
        // five times up, one each round
        FlowChain x = Due.chain(6);
        bad(x, "var p:1;var q:2;var r:3;var s:4;var t:5;"
                + "while 0{a=a+b;b=b+c;c=c+d;d=d+e;e=e+p;if f{e=e+q;}if g{e=e+r;}if h{e=e+s;}if i{e=e+t;}"
                + "i=h;h=g;g=f;f=p;}!out a:4;");
    }

    private static void procs() {
        due.sentence("do: as if the BLOCK stood there.");
        good("var h:1;proc p{out h:0;}");
        bad("var h:1;proc p{!out h:0;}do p;");
        good("var h:1;proc p{out a:0;}do p;a=h;");
        bad("var h:1;proc p{!out a:0;}do p;a=h;do p;");
        bad("var h:1;proc p{!out 1:0;}if h{do p;}");
        bad("var h:1;proc p{a=h;}do p;!out a:0;");
        good("var h:1;proc p{a=0;}a=h;do p;out a:0;");
        bad("var h:1;proc p{!out a:0;}while 0{do p;a=h;}");
        bad("var h:1;proc p{!out a:0;}proc q{do p;a=h;do p;}do q;");
        good("var h:1;proc p{}proc q{do p;}if h{do q;}out 1:0;");
        // as deep as 240 signs go
        String open = Due.times("if1{", 7);
        String shut = Due.times("}", 8);
        bad(Due.chain(2), "proc a{" + open + "in x:1;!out x:0;" + shut + "proc b{" + open + "do a;" + shut + "proc c{" + open + "do b;"
                + shut + "proc d{" + open + "do c;" + shut + "if1{" + open.substring(8) + "do d;" + shut.substring(2));
    }

    private static void firstTime() {
        due.sentence("Where a BELOW fails when all is gone through so, the first time: FLOW, at the place of the STATEMENT's first TOKEN.");
        bad("var h:1;!out h:0;out h:0;");
        bad("var h:1;   !out   h:0;");
        bad("var h:1;var l:0;!l=h;out h:0;");
        bad("var h:1;row r:0;!r[h]=h;out h:0;");
        bad("var h:1;if 0{!out h:0;}else{out h:0;}");
        bad("var h:1;if h{a=1;!in b:0;out 1:0;}");
        bad("var h:1;proc p{out h:0;}!out h:0;do p;");
        bad("var h:1;proc p{!out h:0;}do p;out h:0;");
        bad("var h:1;while 0{out a:0;!out h:0;a=h;}");
        bad("var h:1;while 0{!out a:0;a=h;out b:0;b=a;}");
        FlowChain x = Due.chain(2);
        bad(x, "var h:1;" + Due.times(" ", 224) + "!out h:0;");
        bad(Due.chain(2), "var h:1;if h{!out 1:0;}");
    }

    private static void tooLong() {
        due.sentence("(More than 64: TOO LONG.)");
        String[] parts = {"a=1;", "in a:0;", "out a:0;", "if a{}", "proc p{}"};
        int[] sizes = {2, 2, 2, 2, 0};
        for (int k = 0; k < parts.length; k++) {
            String declared = sizes[k] == 0 ? parts[k] : "";
            String last = sizes[k] == 0 ? "do p;" : parts[k];
            FlowChain x = Due.put(Due.chain(1), declared + Due.times("a=1;", 30) + last);
            due.is("below 64 with " + last, 61 + sizes[k], x::compile);
        }
        String head = Due.times("a=1;", 30);
        String[] most = {"while a{}", "if a{}else{}"};
        for (String text : most) {
            FlowChain x = Due.put(Due.chain(1), head + text);
            due.is("64 with " + text, 64, x::compile);
            due.is("HALT is the last", 15, () -> x.instruction(63, false));
            due.told("64 with " + text, -1, -1, x);
        }
        String[] over = {"while a{}a=1;", "if a{}else{a=1;}", "a=1;a=1;", "if a{a=1;}", "a=1+1+1;",
            "in a:0;in a:0;", "out 1:0;out 2:0;", "while a{while a{}}", "if a{if a{}}", "a=1+1;if a{}"};
        for (String text : over) {
            FlowChain x = Due.put(Due.chain(1), head + text);
            due.fails("more than 64: " + text, Due.BOUNDS, x::compile);
            due.told("more than 64: " + text, 64, 10, x);
        }
        FlowChain x = Due.put(Due.chain(1), "proc p{" + Due.times("a=1;", 8) + "}" + Due.times("do p;", 4));
        due.fails("64 by PROCS, and HALT", Due.BOUNDS, x::compile);
        due.told("64 by PROCS, and HALT", 64, 10, x);
        Due.put(x, "proc p{" + Due.times("a=1;", 7) + "in b:0;}proc q{a=1;in b:0;a=1;if a{}else{}}" + Due.times("do p;", 3) + "do q;");
        due.is("PROCS: 3 * 16 + 9 and HALT", 58, x::compile);
    }

    private static void kinds() {
        due.sentence("SYNTAX (KIND 8): NoSuchElementException; FLOW (9): UnsupportedOperationException;"
                + " TOO LONG (10, PLACE 64): IndexOutOfBoundsException");
        String flow = "var h:1;out h:0;";
        String tooLong = Due.times("a=1;", 32);
        FlowChain x = Due.chain(2);
        Due.put(x, flow + tooLong + "a");
        due.fails("SYNTAX before FLOW and TOO LONG", Due.ELEMENT, x::compile);
        due.told("SYNTAX", flow.length() + tooLong.length() + 1, 8, x);
        Due.put(x, flow + tooLong);
        due.fails("FLOW before TOO LONG", Due.UNSUPPORTED, x::compile);
        due.told("FLOW", 8, 9, x);
        Due.put(x, "var h:1;" + tooLong + "out h:0;");
        due.fails("FLOW, though it is behind the 64th", Due.UNSUPPORTED, x::compile);
        due.told("FLOW", 8 + tooLong.length(), 9, x);
        Due.put(x, tooLong);
        due.fails("TOO LONG", Due.BOUNDS, x::compile);
        due.told("TOO LONG", 64, 10, x);
        Due.put(x, Due.times("a=1;", 31) + "a");
        due.fails("SYNTAX", Due.ELEMENT, x::compile);
        due.told("SYNTAX", 125, 8, x);
    }

    private static void stays() {
        due.sentence("all else stays as it was, but PLACE and KIND are told.");
        String[] texts = {"var b:2;row r:2;c=", "var b:2;row r:2;out b:0;", "row r:2;" + Due.times("c=1;", 32)};
        for (String text : texts) {
            FlowChain x = Due.compiled(Due.chain(3), "var b:1;row r:1;if a{b=3;}r[1]=b;");
            x.verify();
            Due.put(x, text);
            due.holds("it fails", Due.outcome(x::compile).contains("Exception"));
            due.is("the CODE stays", 8, () -> x.count(3));
            due.is("VERIFIED stays", 1, () -> x.count(4));
            due.is("the PROGRAM stays", 1, () -> x.count(5));
            due.is("maps stay", 1, () -> x.map(0, 1));
            due.is("regions stay", 4, () -> x.region(1, -1));
            due.is("it can be run", 0, () -> x.run(600));
            due.is("it can be walked over", 0, () -> x.walk(600));
            due.is("FUEL of the old one", 2, () -> x.count(6));
            due.is("FIXED stays", 1, () -> x.fix(1, false, -1));
            due.is("the ROW's LABEL stays", 1, () -> x.fix(17, true, -1));
        }
    }

    private static void becomes() {
        due.sentence("Else that is the PROGRAM, its CODE the CODE, FIXED VARIABLES and ROWS' LABELS are as in it; nothing is VERIFIED.");
        FlowChain x = Due.chain(3);
        Due.coded(x, 15, 1, 15, 2, 15, 3, 15, 4);
        for (int name = 0; name < 26; name++) {
            x.fix(name, false, 2);
            x.fix(name, true, 2);
        }
        x.verify();
        due.is("compile", 1, () -> Due.put(x, "var a:1;row z:0;").compile());
        due.code("its CODE alone", x, 15, 0);
        due.is("PROGRAM", 1, () -> x.count(5));
        due.is("not VERIFIED", 0, () -> x.count(4));
        due.fails("no run", Due.UNSUPPORTED, () -> x.run(1));
        due.fails("no maps", Due.STATE, () -> x.map(0, 0));
        for (int name = 0; name < 26; name++) {
            int at = name;
            due.is("FIXED " + name, name == 0 ? 1 : -1, () -> x.fix(at, false, -1));
            due.is("ROW " + name, name == 25 ? 0 : -1, () -> x.fix(at, true, -1));
        }
    }

    private static void answers() {
        due.sentence("Answers how many INSTRUCTIONS.");
        due.is("the least", 1, Due.chain(1)::compile);
        due.is("declarations make none", 1, Due.put(Due.chain(1), "var a:0;row b:0;proc c{d=1;}")::compile);
        due.is("the most", 64, Due.put(Due.chain(1), Due.times("a=1;", 30) + "while a{}")::compile);
    }
}
