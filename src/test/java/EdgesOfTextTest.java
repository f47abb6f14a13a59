/** Sentences that name edges: of THE TEXT, TOKENS and SYNTAX in the terms, of promise 5, and of 6 what it says of these. */
public final class EdgesOfTextTest {
    private static final Due due = new Due();
    private static final String LONE = ";=[]{}()+-*/<:";

    public static void main(String[] args) {
        sizes();
        lowestBytes();
        plainSigns();
        mostSigns();
        itsLength();
        words();
        numbers();
        loneSigns();
        blanks();
        oneLetter();
        declarationsFirst();
        blocks();
        statements();
        expressions();
        labels();
        newNames();
        otherNames();
        endedProcs();
        open();
        places();
        missing();
        notSealed();
        emptyThen();
        due.end();
    }

    private static void good(String text) {
        FlowChain x = Due.put(Due.chain(3), text);
        due.is("good: " + text, 0, () -> x.compile() > 0 ? 0 : 1);
        due.told("good: " + text, -1, -1, x);
    }

    /** SYNTAX at the mark ! in it, which is not part of the text. */
    private static void bad(String marked) {
        int at = marked.indexOf('!');
        badAt(at, marked.substring(0, at) + marked.substring(at + 1));
    }

    private static void badAt(int at, String text) {
        FlowChain x = Due.put(Due.chain(3), text);
        due.fails("bad: " + text, Due.ELEMENT, x::compile);
        due.told("bad: " + text, at, 8, x);
    }

    private static void sizes() {
        due.sentence("n 1 .. 8");
        long signs = 0x6162_6364_6566_6768L;
        for (int n = 1; n <= 8; n++) {
            FlowChain x = new FlowChain(1);
            int size = n;
            due.is(n + " signs", n, () -> x.append(signs, size));
        }
        int[] wrong = {0, -1, 9, 10, 16, Integer.MIN_VALUE, Integer.MAX_VALUE};
        for (int n : wrong) {
            FlowChain x = new FlowChain(1);
            due.fails(n + " signs", Due.ARGUMENT, () -> x.append(signs, n));
            due.is("none was put", 0, () -> x.count(2));
        }
    }

    private static void lowestBytes() {
        due.sentence("the n lowest bytes of v, the highest of them first, are put to the end of THE TEXT");
        FlowChain x = Due.chain(1);
        x.append(0x613d_6213L << 8 | '+', 1);
        due.fails("the lowest alone", Due.ELEMENT, x::compile);
        due.told("the lowest alone", 0, 8, x);
        x.append(0xff00_1f7f_80ff_613dL, 2);
        x.append(0xffff_ffff_ff00_0037L, 1);
        x.append(0x8000_0000_0000_003bL, 1);
        due.is("bytes above are not looked at", 3, x::compile);
        due.code("a=7;", x, 0, 7, 2, 0, 15, 0);
        x.append(0x613d_3132_3334_353bL, 8);
        due.is("all eight", 3, x::compile);
        due.code("a=12345;", x, 0, 12345, 2, 0, 15, 0);
        x.append(0xff62_3d31_3233_343bL, 7);
        due.is("seven", 3, x::compile);
        due.code("b=1234;", x, 0, 1234, 2, 1, 15, 0);
    }

    private static void plainSigns() {
        due.sentence("one is not 32 .. 126: IllegalArgumentException.");
        for (int sign = 0; sign < 256; sign++) {
            boolean plain = sign >= 32 && sign <= 126;
            for (int k = 0; k < 8; k += 7) {
                FlowChain x = new FlowChain(1);
                long v = 0x6161_6161_6161_6161L & ~(255L << 8 * k) | (long) sign << 8 * k;
                if (plain) {
                    due.is("sign " + sign + " as byte " + k, 8, () -> x.append(v, 8));
                } else {
                    due.fails("sign " + sign + " as byte " + k, Due.ARGUMENT, () -> x.append(v, 8));
                }
                due.is("what is there", plain ? 8 : 0, () -> x.count(2));
            }
        }
        for (int k = 0; k < 8; k++) {
            FlowChain x = new FlowChain(1);
            long v = 0x6161_6161_6161_6161L & ~(255L << 8 * k) | 31L << 8 * k;
            for (int n = 1; n <= 8; n++) {
                int size = n;
                if (n <= k) {
                    due.is("the wrong one is above", n * (n + 1) / 2, () -> x.append(v, size));
                } else {
                    due.fails("the wrong one is one of them", Due.ARGUMENT, () -> x.append(v, size));
                }
            }
        }
    }

    private static void mostSigns() {
        due.sentence("It would have more than 240: IndexOutOfBoundsException.");
        for (int n = 1; n <= 8; n++) {
            int size = n;
            FlowChain x = Due.put(Due.chain(1), Due.times(" ", 240 - n));
            due.is("240 with " + n, 240, () -> x.append(0x2020_2020_2020_2020L, size));
            FlowChain y = Due.put(Due.chain(1), Due.times(" ", 241 - n));
            due.fails("241 with " + n, Due.BOUNDS, () -> y.append(0x2020_2020_2020_2020L, size));
            due.is("as long as before", 241 - n, () -> y.count(2));
            if (n > 1) {
                due.is("one less fits", 240, () -> y.append(0x2020_2020_2020_2020L, size - 1));
            }
            due.fails("then none fits", Due.BOUNDS, () -> y.append(32, 1));
            due.is("it can be read", 1, y::compile);
            due.is("then it is empty", 1, () -> y.append(32, 1));
        }
    }

    private static void itsLength() {
        due.sentence("Answers its length.");
        FlowChain x = Due.chain(1);
        due.is("3", 3, () -> x.append(0x2020_20L, 3));
        due.is("3 + 8", 11, () -> x.append(0x2020_2020_2020_2020L, 8));
        due.is("3 + 8 + 1", 12, () -> x.append(32, 1));
        due.is("as count says", 12, () -> x.count(2));
    }

    private static void words() {
        due.sentence("WORDS (small letters, as many as follow)");
        bad("!ab=1;");
        bad("!inn a:0;");
        bad("i=1;n!");
        bad("a=!bc;");
        bad("!outa:0;");
        bad("while!A{}");
        good("in a:0;");
        bad("in !in:0;");
        bad("!dop;");
        bad("if a{}!els{}");
        bad("if a{}!elsee{}");
        bad("!va a:0;");
        bad("!procp{}");
        bad("a=1!A;");
        bad("!" + Due.times("z", 240));
        String[] words = {"var a:0;", "row a:0;", "proc a{}", "if 1{}", "while 1{}", "in a:0;", "out a:0;", "do p;"};
        for (String word : words) {
            int end = word.indexOf(' ');
            good("proc p{}" + word);
            for (int k = 0; k < end; k++) {
                bad("proc p{}!" + word.substring(0, k) + "x" + word.substring(k + 1));
                bad("proc p{}!" + word.substring(0, k) + "x" + word.substring(k));
            }
            bad("proc p{}!" + word.substring(0, end) + "x" + word.substring(end));
        }
        bad("if 1{}!xlse{}");
        bad("if 1{}!elsx{}");
        good("a=z;");
        bad("a=!`;");
        bad("a=!{;");
    }

    private static void numbers() {
        due.sentence("NUMBERS (digits likewise; with more than 9 it is none)");
        FlowChain x = Due.put(Due.chain(1), "a=999999999;");
        due.is("nine digits", 3, x::compile);
        due.is("as they are", 999999999, () -> x.instruction(0, true));
        FlowChain y = Due.put(Due.chain(1), "a=000000008;b=0;");
        due.is("nine with noughts", 5, y::compile);
        due.is("by ten", 8, () -> y.instruction(0, true));
        bad("a=!1000000000;");
        bad("a=!0000000000;");
        bad("a=!0000000001;");
        bad("a=1+!9999999999+1;");
        bad("a=!" + Due.times("1", 200) + ";");
        bad("a=999999999 !9;");
        bad("a=1 !2;");
        bad("a=!0123456789");
        bad("a=012345678!");
        bad("out 1:!0000000000;");
        bad("a=!/;");
        bad("a=!:;");
    }

    private static void loneSigns() {
        due.sentence("each of ; = [ ] { } ( ) + - * / < : alone");
        for (char sign = 33; sign <= 126; sign++) {
            boolean letter = sign >= 'a' && sign <= 'z';
            badAt(letter ? 5 : 4, "a=1;" + sign);
            boolean digit = sign >= '0' && sign <= '9';
            boolean more = "+-*/<=".indexOf(sign) >= 0;
            if (!digit && sign != ';') {
                badAt(more ? 4 : 3, "a=1" + sign);
            }
            if (LONE.indexOf(sign) < 0 && !digit && !letter) {
                badAt(0, "" + sign);
                badAt(2, "a=" + sign + "1;");
            }
        }
        bad("a=1<!=2;");
        bad("a=1=!=2;");
        bad("a=1<!<2;");
        bad("a=!-1;");
        bad("a=1+!+1;");
        good("a=((1))*(2)-(3)/(4)<(5);");
    }

    private static void blanks() {
        due.sentence("blanks only part them");
        good("   a   =   1   ;   ");
        good("a=1;");
        good(" var a : 1 ; row r : 1 ; proc p { r [ 0 ] = a ; } if a < 1 { } else { }");
        bad("a=1 !0;");
        bad("i !f 1{}");
        bad("in a:1 !1;");
        good("if1{}else{}while0{}");
        good("out1:0;out(1):0;");
        good("in a:0;");
        bad("!ina:0;");
        bad("   !)   ");
        good(Due.times(" ", 240));
    }

    private static void oneLetter() {
        due.sentence("A NAME is a WORD of one letter.");
        for (char name = 'a'; name <= 'z'; name++) {
            int number = name - 'a';
            FlowChain x = Due.put(Due.chain(1), name + "=1;");
            due.is("a VARIABLE " + name, 3, x::compile);
            due.is("its number", number, () -> x.instruction(1, true));
            FlowChain y = Due.put(Due.chain(1), "row " + name + ":0;" + name + "[1]=2;");
            due.is("a ROW " + name, 4, y::compile);
            due.is("its number as a ROW", number, () -> y.instruction(2, true));
            FlowChain z = Due.put(Due.chain(1), "proc " + name + "{" + (name == 'a' ? 'b' : 'a') + "=1;}do " + name + ";");
            due.is("a PROC " + name, 3, z::compile);
        }
        bad("var !aa:0;");
        bad("row !rr:0;");
        bad("proc !pp{}");
        bad("!aa=1;");
        bad("a=!aa;");
        bad("in !aa:0;");
        bad("proc p{}do !pp;");
    }

    private static void declarationsFirst() {
        due.sentence("PROGRAM: { \"var\" NAME \":\" LABEL \";\" | \"row\" NAME \":\" LABEL \";\" | \"proc\" NAME BLOCK } { STATEMENT }.");
        good("");
        good("var a:0;");
        good("row a:0;");
        good("proc a{}");
        good("proc a{}row b:0;proc c{}var d:0;proc e{}");
        bad("a=1;!var b:0;");
        bad("a=1;!row b:0;");
        bad("a=1;!proc b{}");
        bad("proc p{!var b:0;}");
        bad("proc p{!row b:0;}");
        bad("proc p{!proc q{}}");
        bad("if 1{!var b:0;}");
        bad("var a!0;");
        bad("var a:0!:");
        bad("var a!=0;");
        bad("row r![0];");
        bad("proc p!:0;");
        bad("proc p !a=1;");
    }

    private static void blocks() {
        due.sentence("BLOCK: \"{\" { STATEMENT } \"}\".");
        good("if 1{}");
        good("if 1{a=1;b=1;}");
        bad("if 1{a=1!}");
        bad("if 1 !a=1;");
        bad("if 1{!;");
        bad("if 1{!{");
        bad("if 1{}!}");
        bad("!{}");
        bad("proc p{}!}");
    }

    private static void statements() {
        due.sentence("STATEMENT: VARIABLE \"=\" E \";\" | ROW \"[\" E \"]\" \"=\" E \";\" | \"if\" E BLOCK [ \"else\" BLOCK ]"
                + " | \"while\" E BLOCK | \"in\" VARIABLE \":\" LABEL \";\" | \"out\" E \":\" LABEL \";\" | \"do\" PROC \";\".");
        bad("a=1;!;");
        bad("a!;");
        bad("a=1!,");
        bad("row r:0;r[0]=1!]");
        bad("row r:0;r[0]!;");
        bad("if 1{}!;");
        bad("if 1{}else{}!else{}");
        bad("if 1{}a=1;!else{}");
        bad("!else{}");
        bad("!else a{}");
        bad("var a:0;!else{}");
        bad("while 1{}!else{}");
        bad("while !{}");
        bad("if !{}");
        bad("in a!;");
        bad("in !0:0;");
        bad("in a:0!=");
        bad("out 1!;");
        bad("out !;");
        bad("out 1:0!+1;");
        bad("proc p{}do p!:");
        bad("proc p{}do !;");
        bad("proc p{}do!");
        bad("!1;");
    }

    private static void expressions() {
        due.sentence("E: S [ ( \"<\" | \"=\" ) S ]. S: T { ( \"+\" | \"-\" ) T }. T: F { ( \"*\" | \"/\" ) F }."
                + " F: NUMBER | VARIABLE | ROW \"[\" E \"]\" | \"(\" E \")\".");
        good("a=1<2;");
        good("a=(1<2)<(2=3);");
        bad("a=1<2!<3;");
        bad("a=1=2!=3;");
        bad("a=1<2!=3;");
        bad("a=1=2!<3;");
        bad("a=1<2+3!<4;");
        good("a=" + Due.times("1+", 20) + "1;");
        good("a=" + Due.times("b*", 20) + "b;");
        bad("a=1+!;");
        bad("a=1-!*2;");
        bad("a=1*!/2;");
        bad("a=1/!);");
        bad("a=(!);");
        bad("a=!;");
        bad("a=!=1;");
        bad("a=!<1;");
        bad("row r:0;a=r[!];");
        bad("row r:0;a=r[1!);");
        bad("row r:0;a=(1!];");
        bad("row r:0;a=![1];");
        bad("a=1!(1);");
        bad("a=1!b;");
        bad("a=b!1;");
    }

    private static void labels() {
        due.sentence("LABEL: a NUMBER below n.");
        for (int n = 1; n <= 6; n++) {
            String[] shapes = {"var a:#;", "row a:#;", "in a:#;", "out 1:#;"};
            for (String shape : shapes) {
                int at = shape.indexOf('#');
                int[] answers = {1, 1, 3, 3};
                FlowChain x = Due.put(Due.chain(n), shape.replace("#", "" + (n - 1)));
                due.is("the last of " + n, answers["vrio".indexOf(shape.charAt(0))], x::compile);
                String[] wrong = {"" + n, "999999999", "1000000000", "00000000" + n, "a", "(0)", "-1", ""};
                for (String label : wrong) {
                    FlowChain y = Due.put(Due.chain(n), shape.replace("#", label));
                    due.fails(n + ": " + shape + label, Due.ELEMENT, y::compile);
                    due.told(n + ": " + shape + label, at, 8, y);
                }
            }
        }
        good("out 1:000000002;");
    }

    private static void newNames() {
        due.sentence("A NAME behind var (it is a FIXED VARIABLE then), row or proc was neither declared nor met before");
        String[] first = {"var a:0;", "row a:0;", "proc a{}", "proc z{a=1;}", "proc z{b=a;}", "proc z{in a:0;}",
            "proc z{out a:0;}", "proc z{if a{}}", "proc z{while a{}}", "row z:0;proc y{z[a]=1;}"};
        String[] then = {"var !a:0;", "row !a:0;", "proc !a{}"};
        for (String f : first) {
            for (String t : then) {
                bad(f + t);
                good(f + t.replace("!a", "c"));
            }
        }
        bad("proc a{}proc b{do a;}var !b:0;");
        FlowChain x = Due.compiled(Due.chain(3), "var a:2;row b:1;");
        due.is("it is a FIXED VARIABLE then", 2, () -> x.fix(0, false, -1));
        due.is("it is a ROW then", 1, () -> x.fix(1, true, -1));
        due.is("and no ROW", -1, () -> x.fix(0, true, -1));
        due.is("and no VARIABLE", -1, () -> x.fix(1, false, -1));
    }

    private static void otherNames() {
        due.sentence("each other NAME is a VARIABLE, unless it is declared as ROW or PROC");
        good("z=y;");
        good("var a:0;a=a;in a:0;");
        bad("row r:0;in !r:0;");
        bad("row r:0;r!=1;");
        bad("row r:0;a=r!;");
        bad("row r:0;r[r!]=1;");
        bad("proc p{}!p=1;");
        bad("proc p{}a=!p;");
        bad("proc p{}in !p:0;");
        bad("proc p{}out !p:0;");
        bad("proc p{}if !p{}");
        bad("proc p{}while 1<!p{}");
        bad("proc p{!p=1;}");
        bad("proc p{a=!p;}");
        bad("a![0]=1;");
        bad("b=a![0];");
        bad("var a:0;b=a![0];");
        bad("proc p{}!p[0]=1;");
    }

    private static void endedProcs() {
        due.sentence("behind do stands a PROC whose BLOCK has ended.");
        good("proc p{}do p;");
        good("proc p{}proc q{do p;}do q;");
        bad("proc p{do !p;}");
        bad("proc p{if 1{do !p;}}");
        bad("proc p{do !q;}proc q{}");
        bad("do !p;");
        bad("p=1;do !p;");
        bad("var p:0;do !p;");
        bad("row p:0;do !p;");
        bad("proc p{}do !q;");
        bad("proc p{}do !1;");
    }

    private static void open() {
        due.sentence("At most 8 of { ( [ are open at a time.");
        String[] kinds = {"(", "r[", "if1{", "while0{"};
        String[] shut = {")", "]", "}", "}"};
        for (int k = 0; k < 2; k++) {
            good("row r:0;a=" + Due.times(kinds[k], 8) + "1" + Due.times(shut[k], 8) + ";");
            badAt(10 + 9 * kinds[k].length() - 1, "row r:0;a=" + Due.times(kinds[k], 9) + "1" + Due.times(shut[k], 9) + ";");
        }
        for (int k = 2; k < 4; k++) {
            good(Due.times(kinds[k], 8) + Due.times(shut[k], 8));
            badAt(9 * kinds[k].length() - 1, Due.times(kinds[k], 9) + Due.times(shut[k], 9));
            good(Due.times(kinds[k], 7) + "a=(1);" + Due.times(shut[k], 7));
            bad(Due.times(kinds[k], 7) + "a=(!(1));" + Due.times(shut[k], 7));
            bad(Due.times(kinds[k], 8) + "a=!(1);" + Due.times(shut[k], 8));
            bad("row r:0;" + Due.times(kinds[k], 8) + "r![1]=1;" + Due.times(shut[k], 8));
            good(Due.times(kinds[k], 8) + "a=1;" + Due.times(shut[k], 8));
        }
        good("proc p{" + Due.times("if1{", 7) + Due.times("}", 8));
        bad("proc p{" + Due.times("if1{", 7) + "if1!{" + Due.times("}", 9));
        good("row r:0;if1{r[(r[(r[(1)])])]=(((((((1)))))));}");
        bad("row r:0;if1{r[(r[(r[(1)])])]=(((((((!(1))))))));}");
        bad("row r:0;if1{r[(r[(r[((!(1)))])])]=1;}");
        good("a=" + Due.times("(1)+", 30) + "1;");
        FlowChain x = Due.put(Due.chain(1), Due.times("if1{", 8));
        due.fails("none is closed", Due.ELEMENT, x::compile);
        due.told("none is closed", 32, 8, x);
        Due.put(x, Due.times("if1{", 8) + Due.times("}", 8));
        due.is("in the next text none is open", 17, x::compile);
        good(Due.times("if1{}", 15) + Due.times("if1{", 8) + Due.times("}", 8));
        good(Due.times("if1{", 7) + "if1{}else{}" + Due.times("}", 7));
        bad(Due.times("if1{", 8) + "if1!{}else{}" + Due.times("}", 8));
    }

    private static void places() {
        due.sentence("SYNTAX, at the place in THE TEXT, from 0, of the first TOKEN (or sign that is of none) with which it can't");
        bad("!)a=1;");
        bad("a=1;!)b=)");
        bad("   !.");
        bad("a=1;!1234567890123");
        bad("a=b+!while{}");
        bad("a=1;!abc=.");
        bad("a=1;b=2 !.c=(");
        badAt(239, Due.times(" ", 239) + ")");
        badAt(232, Due.times("a=1;", 58) + "whileout");
    }

    private static void missing() {
        due.sentence("at the length if something is missing there");
        String whole = "var a:0;row r:1;proc p{b=1;}r[a+1]=(2<r[3])*4;if a{in b:1;}else{out b/2-1:2;}while a{do p;}";
        String[] tokens = whole.replaceAll("([^a-z])", " $1 ").replaceAll("([a-z]+)", " $1 ").trim().split(" +");
        StringBuilder text = new StringBuilder();
        for (String token : tokens) {
            FlowChain x = Due.put(Due.chain(3), text.toString());
            String outcome = Due.outcome(x::compile);
            boolean ends = text.length() == 0 || text.toString().matches(".*([;}] )") && balanced(text);
            due.same("begun: " + text, ends ? "-1" : "" + text.length(), "" + x.count(7));
            due.same("begun: " + text, ends ? "-1" : "8", "" + x.count(8));
            due.holds("begun: " + text, ends || outcome.equals(Due.ELEMENT.getName()));
            text.append(token).append(' ');
        }
        good(whole);
        bad("a=1!");
        bad("a=1     !");
        badAt(240, Due.times("a=1;", 59) + "a=1 ");
        badAt(240, Due.times(" ", 239) + "a");
        badAt(1, "a");
        badAt(3, "var");
        badAt(3, "if1");
        badAt(240, Due.times("if1{", 8) + Due.times(" ", 208));
    }

    private static boolean balanced(CharSequence text) {
        int open = 0;
        for (int i = 0; i < text.length(); i++) {
            open += "{([".indexOf(text.charAt(i)) >= 0 ? 1 : "})]".indexOf(text.charAt(i)) >= 0 ? -1 : 0;
        }
        return open == 0;
    }

    private static void notSealed() {
        due.sentence("It is not SEALED: IllegalStateException.");
        FlowChain x = new FlowChain(2);
        due.fails("without a text", Due.STATE, x::compile);
        Due.put(x, "a=");
        due.fails("with a text that can't be read", Due.STATE, x::compile);
        due.is("which stays", 2, () -> x.count(2));
        due.told("nothing is told", -1, -1, x);
        due.fails("seal fails", Due.UNSUPPORTED, x::seal);
        due.fails("compile then", Due.STATE, x::compile);
        due.told("what seal told stays", 1, 7, x);
        x.below(0, 1);
        x.seal();
        Due.put(x, "1;");
        due.is("it goes on with that text", 3, x::compile);
    }

    private static void emptyThen() {
        due.sentence("THE TEXT is read, and empty then.");
        FlowChain x = Due.chain(2);
        String[] texts = {"a=1;", "a=1", "var a:1;out a:0;", Due.times("a=1;", 40), ""};
        for (String text : texts) {
            Due.put(x, text);
            due.is("there", text.length(), () -> x.count(2));
            Due.outcome(x::compile);
            due.is("empty", 0, () -> x.count(2));
            due.is("an empty one is read then", 1, x::compile);
        }
        for (int round = 0; round < 9; round++) {
            Due.put(x, Due.times("if a{b=c*(d-e)/(f+g)<h;} ", 4) + Due.times(" ", 140));
            due.is("as long as it may be, again and again", 57, x::compile);
            due.is("its first", 0, () -> x.instruction(0, true));
            due.is("its last x", 7, () -> x.instruction(53, true));
            due.is("its last operation", 9, () -> x.instruction(54, false));
        }
        Due.put(x, Due.times("a=1;", 60));
        due.fails("240 TOKENS", Due.BOUNDS, x::compile);
        due.told("240 TOKENS", 64, 10, x);
    }
}
