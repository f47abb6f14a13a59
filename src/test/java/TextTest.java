/** Promise 5, append; and of promise 6, compile, what is SYNTAX and where. */
public final class TextTest {
    private static final Due due = new Due();

    public static void main(String[] args) {
        append();
        tokens();
        declarations();
        statements();
        expressions();
        names();
        depth();
        afterFailure();
        due.end();
    }

    private static void append() {
        FlowChain x = new FlowChain(1);
        due.is("one sign", 1, () -> x.append('a', 1));
        due.is("only the lowest bytes", 3, () -> x.append(0xFFFF_FFFF_FFFF_203BL, 2));
        due.is("eight", 11, () -> x.append(0x7e7e_7e7e_7e7e_7e20L, 8));
        due.is("count(2)", 11, () -> x.count(2));
        due.fails("n 0", Due.ARGUMENT, () -> x.append('a', 0));
        due.fails("n 9", Due.ARGUMENT, () -> x.append(0x6161_6161_6161_6161L, 9));
        due.fails("n -1", Due.ARGUMENT, () -> x.append('a', -1));
        due.fails("n least", Due.ARGUMENT, () -> x.append('a', Integer.MIN_VALUE));
        due.fails("sign 31", Due.ARGUMENT, () -> x.append(31, 1));
        due.fails("sign 127", Due.ARGUMENT, () -> x.append(127, 1));
        due.fails("sign 255", Due.ARGUMENT, () -> x.append(-1, 1));
        due.fails("the highest is none", Due.ARGUMENT, () -> x.append(0x0061_6161_6161_6161L, 8));
        due.fails("a byte above is 0", Due.ARGUMENT, () -> x.append('a', 2));
        due.is("nothing was put", 11, () -> x.count(2));
        for (int k = 0; k < 28; k++) {
            x.append(0x2020_2020_2020_2020L, 8);
        }
        due.is("235 signs", 235, () -> x.count(2));
        due.fails("241 signs", Due.BOUNDS, () -> x.append(0x2020_2020_2020L, 6));
        due.fails("a wrong sign comes first", Due.ARGUMENT, () -> x.append(0x0a20_2020_2020L, 6));
        due.is("240 signs", 240, () -> x.append(0x2020_2020_20L, 5));
        due.fails("one more", Due.BOUNDS, () -> x.append(32, 1));
        due.is("still 240", 240, () -> x.count(2));
        FlowChain y = Due.chain(1);
        y.append(0x613d_32L, 3);
        y.append(';', 1);
        due.is("the highest byte first: a=2;", 3, y::compile);
        due.code("a=2;", y, 0, 2, 2, 0, 15, 0);
    }

    /** It is read. */
    private static void good(String text) {
        FlowChain x = Due.put(Due.chain(3), text);
        due.holds("good: " + text, tellsNoSyntax(x));
        due.is("the text is empty then", 0, () -> x.count(2));
    }

    private static boolean tellsNoSyntax(FlowChain x) {
        try {
            x.compile();
            return true;
        } catch (UnsupportedOperationException | IndexOutOfBoundsException e) {
            return x.count(8) != 8;
        } catch (RuntimeException e) {
            return false;
        }
    }

    /** It is SYNTAX, at the place of the mark ! in it, which is not part of the text. */
    private static void bad(String marked) {
        int at = marked.indexOf('!');
        String text = marked.substring(0, at) + marked.substring(at + 1);
        FlowChain x = Due.put(Due.chain(3), text);
        due.fails("bad: " + marked, Due.ELEMENT, x::compile);
        due.told("bad: " + marked, at, 8, x);
        due.is("the text is empty: " + marked, 0, () -> x.count(2));
    }

    private static void tokens() {
        good("");
        good("    ");
        good(" a = 1 ; ");
        good("a=999999999;");
        good("a=000000001;");
        bad("a=!1234567890;");
        bad("a=!0000000000;");
        bad("a=1!.5;");
        bad("!A=1;");
        bad("a=1;!_");
        bad("a=1;!~");
        bad("a=1;   !.   ");
        bad("a=1!");
        bad("a=1   !");
        bad("a=1;b!");
        bad("!ab=1;");
        bad("!vara:1;");
        bad("!iff 1{}");
        bad("i !f 1{}");
        bad("a!1=1;");
        bad("a=1!a;");
        good("if0{}");
        good("while0{}");
        good("out1:0;");
    }

    private static void declarations() {
        good("var a:0;row b:2;proc c{}");
        good("proc c{}row b:2;var a:00;");
        good("var a:000000002;");
        bad("var !1:0;");
        bad("var !ab:0;");
        bad("var !if:0;");
        bad("var a!;");
        bad("var a:!;");
        bad("var a:!3;");
        bad("var a:!999999999;");
        bad("var a:!1000000000;");
        bad("var a:!b;");
        bad("var a:0!");
        bad("var a:0!,");
        bad("row a:!3;");
        bad("row a!=0;");
        bad("proc a!;");
        bad("proc a{!");
        bad("proc a{b=1;!");
        bad("proc a{!var b:0;}");
        bad("a=1;!var b:0;");
        bad("a=1;!row b:0;");
        bad("a=1;!proc b{}");
        bad("if 1{}!proc b{}");
        bad("var!");
    }

    private static void statements() {
        good("a=1;b=a;in c:2;out 1+1:2;if a{}if a{b=1;}else{b=2;}while a{a=a-1;}");
        good("if a{}else{}");
        bad("if a{}!elseif a{}");
        bad("if a{}else !if a{}");
        bad("if a!;");
        bad("if !{}");
        bad("if a{}else !else{}");
        bad("if a{}else{}!else{}");
        bad("!else{}");
        bad("while a{}!else{}");
        bad("while a!");
        bad("while a{!");
        bad("!}");
        bad("if a{}!}");
        bad("!{a=1;}");
        bad("!;");
        bad("a=1;!;");
        bad("a!:1;");
        bad("a!<1;");
        bad("a=!;");
        bad("in !1:0;");
        bad("in a!=1;");
        bad("in a:!3;");
        bad("in a:0!:");
        bad("in a!+1:0;");
        bad("out !:0;");
        bad("out a!;");
        bad("out a:!3;");
        bad("out a:!a;");
        bad("out 1<2!<3:0;");
        bad("do !1;");
        bad("do !;");
        bad("!1=a;");
        bad("!(a)=1;");
    }

    private static void expressions() {
        good("a=1+2-3*4/5;");
        good("a=(1<2)=(3=4);");
        good("a=b=c;");
        good("a=b<c;");
        bad("a=b=c!=d;");
        bad("a=b=c!<d;");
        bad("a=b<c!=d;");
        bad("a=!-1;");
        bad("a=1+!;");
        bad("a=1+!+1;");
        bad("a=1*!*1;");
        bad("a=1!(2);");
        bad("a=(!);");
        bad("a=(1!;");
        bad("a=(1!];");
        bad("a=1!);");
        bad("a=!if;");
        bad("a=1!do;");
        bad("a=1!:0;");
        good("row r:0;a=r[1+r[2]]*r[(3)];");
        good("row r:0;r[1]=r[2];");
        bad("row r:0;a=r!;");
        bad("row r:0;a=r!(1);");
        bad("row r:0;a=r[!];");
        bad("row r:0;a=r[1!;");
        bad("row r:0;r!=1;");
        bad("row r:0;r[1=1!;");
        bad("row r:0;r[1]!<1;");
        bad("row r:0;r[1]=!;");
    }

    private static void names() {
        bad("var a:0;var !a:0;");
        bad("var a:0;row !a:0;");
        bad("row a:0;var !a:0;");
        bad("row a:0;proc !a{}");
        bad("proc a{}var !a:0;");
        bad("proc a{b=1;}var !b:0;");
        bad("proc a{b=c;}row !c:0;");
        bad("proc a{in b:0;}proc !b{}");
        bad("proc a{out b:0;}proc !b{}");
        good("var b:0;proc a{b=1;}");
        good("proc a{b=1;}proc c{b=2;}b=3;");
        bad("a![1]=1;");
        bad("a=b![1];");
        bad("var b:0;b![1]=1;");
        bad("row r:0;in !r:0;");
        bad("proc p{}in !p:0;");
        bad("proc p{}!p=1;");
        bad("proc p{}a=!p;");
        bad("proc p{}a=1+!p;");
        bad("proc p{!p=1;}");
        bad("proc p{a=!p;}");
        bad("proc p{do !p;}");
        bad("proc p{do !q;}proc q{}");
        bad("do !p;");
        bad("var p:0;do !p;");
        bad("row p:0;do !p;");
        bad("p=1;do !p;");
        good("proc p{}proc q{do p;do p;}do q;do p;");
        bad("proc p{}do p!{}");
        bad("proc p{}do !pp;");
    }

    private static void depth() {
        good(Due.times("if 1{", 8) + "a=1;" + Due.times("}", 8));
        bad(Due.times("if 1{", 8) + "if 1!{" + Due.times("}", 9));
        good("a=" + Due.times("(", 8) + "1" + Due.times(")", 8) + ";");
        bad("a=" + Due.times("(", 8) + "!(1" + Due.times(")", 9) + ";");
        good("row r:0;a=" + Due.times("r[", 8) + "1" + Due.times("]", 8) + ";");
        bad("row r:0;a=" + Due.times("r[", 8) + "r![1" + Due.times("]", 9) + ";");
        good("row r:0;if 1{while 1{r[(r[((1))])]=((((((1))))));}}");
        bad("row r:0;proc p{if 1{while 1{r[(r[((!(1)))])]=1;}}}");
        bad("row r:0;proc p{if 1{while 1{a=(((((!(1))))));}}}");
        good("row r:0;proc p{if 1{while 1{a=(((((1)))));}}}");
        good("a=" + Due.times("(1)+", 20) + "1;");
        good("proc p{" + Due.times("if 1{", 7) + Due.times("}", 8) + Due.times("if 1{", 8) + "do p;" + Due.times("}", 8));
    }

    private static void afterFailure() {
        FlowChain x = new FlowChain(2);
        Due.put(x, "a=1;");
        due.fails("not SEALED", Due.STATE, x::compile);
        due.is("the text stays", 4, () -> x.count(2));
        due.told("nothing is told", -1, -1, x);
        x.below(0, 1);
        x.seal();
        due.is("SEALED then", 3, x::compile);
        x.verify();
        x.run(9);
        Due.put(x, "b=");
        due.fails("bad", Due.ELEMENT, x::compile);
        due.told("bad", 2, 8, x);
        due.code("the code stays", x, 0, 1, 2, 0, 15, 0);
        due.is("VERIFIED stays", 1, () -> x.count(4));
        due.is("PROGRAM stays", 1, () -> x.count(5));
        due.is("maps stay", 0, () -> x.map(0, 27));
        due.is("walk does the old one", 0, () -> x.walk(9));
        due.is("its value", 1, () -> x.value(0));
        due.is("an empty text", 1, x::compile);
        due.told("no failure any more", -1, -1, x);
        due.code("an empty program", x, 15, 0);
        Due.put(x, "if 1{if 1{if 1{a=((1");
        due.fails("bad with some open", Due.ELEMENT, x::compile);
        Due.put(x, Due.times("if 1{", 8) + Due.times("}", 8));
        due.is("none is open in the next text", 17, x::compile);
        Due.put(x, "proc p{}row r:0;var v:0;p");
        due.fails("bad with some declared", Due.ELEMENT, x::compile);
        Due.put(x, "r=p+v;");
        due.is("none is declared in the next text", 5, x::compile);
    }
}
