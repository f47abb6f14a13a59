/** Promises 10 to 12: verify, map, region. */
public final class VerifyTest {
    private static final Due due = new Due();

    public static void main(String[] args) {
        states();
        arguments();
        ending();
        heights();
        order();
        flows();
        maps();
        mapLimits();
        levels();
        regions();
        farRegions();
        again();
        regionLimits();
        whenMapsStay();
        due.end();
    }

    private static FlowChain coded(int... pairs) {
        return Due.coded(Due.chain(3), pairs);
    }

    private static void good(String what, int heights, int... pairs) {
        FlowChain x = coded(pairs);
        due.is(what, heights, x::verify);
        due.told(what, -1, -1, x);
        due.is(what + ": VERIFIED", 1, () -> x.count(4));
    }

    private static void bad(String what, int place, int kind, int... pairs) {
        bad(what, place, kind, coded(pairs));
    }

    private static void bad(String what, int place, int kind, FlowChain x) {
        due.fails(what, Due.UNSUPPORTED, x::verify);
        due.told(what, place, kind, x);
        due.is(what + ": not VERIFIED", 0, () -> x.count(4));
        due.fails(what + ": no run", Due.UNSUPPORTED, () -> x.run(1));
        if (kind < 6) {
            due.fails(what + ": no maps", Due.STATE, () -> x.map(0, 0));
        }
    }

    private static void states() {
        FlowChain x = new FlowChain(2);
        due.fails("not SEALED", Due.STATE, x::verify);
        x.code(15, 0);
        due.fails("not SEALED, with CODE", Due.STATE, x::verify);
        x.below(0, 1);
        x.seal();
        due.is("SEALED", 1, x::verify);
        x.clear();
        x.code(5, 0);
        due.fails("a fault", Due.UNSUPPORTED, x::verify);
        due.told("a fault", 0, 2, x);
        x.clear();
        due.fails("no CODE", Due.STATE, x::verify);
        due.told("which tells nothing new", 0, 2, x);
    }

    private static void arguments() {
        for (int operation = 1; operation <= 4; operation++) {
            bad("x -1 of " + operation, 1, 1, 15, 0, operation, -1, 15, 0);
            bad("x 26 of " + operation, 1, 1, 15, 0, operation, 26, 15, 0);
            good("x 25 of " + operation, 1, 15, 0, operation, 25, 15, 0);
        }
        for (int operation = 13; operation <= 14; operation++) {
            bad("x -1 of " + operation, 0, 1, operation, -1, 15, 0);
            bad("x n of " + operation, 1, 1, 15, 0, operation, 3, 15, 0);
            good("x n - 1 of " + operation, 1, 15, 0, operation, 2, 15, 0);
        }
        for (int operation = 11; operation <= 12; operation++) {
            bad("x -1 of " + operation, 1, 1, 15, 0, operation, -1, 15, 0);
            bad("x size of " + operation, 1, 1, 15, 0, operation, 3, 15, 0);
            bad("x least of " + operation, 1, 1, 15, 0, operation, Integer.MIN_VALUE, 15, 0);
            bad("x most of " + operation, 1, 1, 15, 0, operation, Integer.MAX_VALUE, 15, 0);
            good("x size - 1 of " + operation, 1, 15, 0, operation, 2, 15, 0);
        }
        good("x of others is free", 3, 0, -7, 2, 0, 15, 99);
        bad("the first that fails", 1, 1, 15, 0, 1, 26, 1, 27, 15, 0);
    }

    private static void ending() {
        for (int operation = 0; operation <= 14; operation++) {
            if (operation != 12) {
                bad("the last is " + operation, 1, 2, 15, 0, operation, 0);
            }
        }
        good("the last is GOTO", 1, 15, 0, 12, 0);
        good("GOTO itself", 1, 12, 0);
        good("HALT alone", 1, 15, 0);
    }

    private static void heights() {
        bad("STORE without", 0, 3, 2, 0, 15, 0);
        bad("AT without", 0, 3, 3, 0, 15, 0);
        bad("ZERO without", 0, 3, 11, 1, 15, 0);
        bad("OUT without", 0, 3, 14, 0, 15, 0);
        for (int operation = 4; operation <= 10; operation++) {
            bad("only one for " + operation, 1, 3, 0, 0, operation, 0, 15, 0);
        }
        int[] full = new int[64];
        full[60] = 15;
        full[62] = 15;
        good("30 PUSHes", 31, full);
        full[60] = 0;
        bad("31 PUSHes", 30, 3, full);
        int[] inFull = new int[64];
        inFull[60] = 13;
        inFull[62] = 15;
        bad("IN upon 30", 30, 3, inFull);
        inFull[60] = 3;
        good("AT upon 30", 32, inFull);
        bad("GOTO upon one", 1, 4, 0, 0, 12, 2, 15, 0);
        bad("ZERO upon two", 2, 4, 0, 0, 0, 0, 11, 3, 15, 0);
        bad("two heights", 2, 5, 0, 0, 11, 3, 0, 0, 15, 0);
        bad("a loop that grows", 2, 4, 0, 0, 0, 0, 12, 0, 15, 0);
        bad("back into a stack", 3, 5, 0, 0, 0, 0, 4, 0, 12, 1, 15, 0);
        good("what can't be reached has no height", 2, 12, 3, 2, 0, 4, 0, 15, 0);
        good("ZERO to the next", 3, 0, 0, 11, 2, 15, 0);
        good("ZERO to itself is a height of 1 there", 4, 12, 1, 0, 0, 11, 1, 15, 0);
        bad("ZERO to itself", 1, 5, 0, 0, 11, 1, 15, 0);
    }

    private static void order() {
        bad("1 before 2", 1, 1, 2, 0, 1, 26);
        bad("2 before 3", 1, 2, 2, 0, 0, 0);
        bad("3 before 6", 3, 3, 13, 1, 14, 0, 12, 3, 2, 0, 15, 0);
        bad("5 at 3, before 3 at 4", 3, 5, 0, 0, 11, 4, 0, 0, 0, 0, 2, 0, 15, 0);
        // 1 and 4 get their heights from 3, and both would fail
        bad("the least one first", 1, 3, 12, 2, 2, 0, 0, 1, 11, 1, 4, 0, 15, 0);
    }

    private static void flows() {
        FlowChain x = coded(1, 0, 2, 1, 15, 0);
        x.fix(0, false, 2);
        x.fix(1, false, 1);
        bad("STORE to a FIXED one", 1, 6, x);
        x.fix(1, false, 2);
        due.is("STORE to a higher one", 3, x::verify);
        x.fix(1, false, -1);
        due.is("STORE to one that is not FIXED", 3, x::verify);
        due.is("which has it then", 2, () -> x.map(2, 1));
        FlowChain y = coded(1, 0, 1, 1, 4, 3, 15, 0);
        y.fix(0, false, 1);
        bad("TO with a high index, ROW BOTTOM", 2, 6, y);
        y.fix(3, true, 1);
        due.is("TO with a ROW as high", 4, y::verify);
        y.fix(1, false, 2);
        bad("TO with a high value", 2, 6, y);
        FlowChain z = coded(13, 1, 2, 0, 15, 0);
        z.fix(0, false, 0);
        bad("STORE to the first FIXED one", 1, 6, z);
        z.fix(0, false, -1);
        z.fix(25, false, 1);
        z.clear();
        Due.coded(z, 13, 1, 2, 25, 15, 0);
        z.fix(25, false, 0);
        bad("STORE to the last FIXED one", 1, 6, z);
        z.clear();
        z.fix(0, true, 1);
        Due.coded(z, 0, 0, 3, 0, 14, 0, 15, 0);
        bad("AT of the first ROW", 2, 6, z);
        z.clear();
        z.fix(0, true, 1);
        Due.coded(z, 0, 0, 13, 1, 4, 0, 15, 0);
        due.is("TO the first ROW", 4, z::verify);
        bad("OUT", 1, 6, 13, 1, 14, 0, 15, 0);
        good("OUT to the same", 3, 13, 1, 14, 1, 15, 0);
        good("OUT to a higher one", 3, 13, 1, 14, 2, 15, 0);
        bad("IN in a REGION", 2, 6, 13, 1, 11, 4, 13, 0, 2, 0, 15, 0);
        good("IN in a REGION, of the same", 5, 13, 1, 11, 4, 13, 1, 2, 0, 15, 0);
        bad("OUT in a REGION", 3, 6, 13, 1, 11, 4, 0, 5, 14, 0, 15, 0);
        good("OUT behind a REGION", 7, 13, 1, 11, 4, 0, 5, 2, 0, 0, 5, 14, 0, 15, 0);
    }

    private static void mapRow(String what, FlowChain x, int i, int[] variables, int level, int... stack) {
        for (int v = 0; v < 26; v++) {
            int at = v;
            due.is(what + ": VARIABLE " + v + " at " + i, v < variables.length ? variables[v] : 0, () -> x.map(i, at));
        }
        due.is(what + ": LEVEL at " + i, level, () -> x.map(i, 26));
        due.is(what + ": HEIGHT at " + i, stack.length, () -> x.map(i, 27));
        for (int j = 0; j < 30; j++) {
            int at = j;
            due.is(what + ": place " + j + " at " + i, j < stack.length ? stack[j] : -1, () -> x.map(i, 28 + at));
        }
    }

    private static void maps() {
        FlowChain x = coded(13, 2, 1, 1, 5, 0, 2, 0, 1, 0, 0, 7, 2, 0, 14, 2, 15, 0, 12, 0);
        x.fix(1, false, 1);
        x.fix(2, true, 2);
        due.is("all but the last", 9, x::verify);
        mapRow("map", x, 0, new int[] {0, 1}, 0);
        mapRow("map", x, 1, new int[] {0, 1}, 0, 2);
        mapRow("map", x, 2, new int[] {0, 1}, 0, 2, 1);
        mapRow("map", x, 3, new int[] {0, 1}, 0, 2);
        mapRow("map", x, 4, new int[] {2, 1}, 0);
        mapRow("map", x, 5, new int[] {2, 1}, 0, 2);
        mapRow("map", x, 6, new int[] {2, 1}, 0, 2, 0);
        mapRow("map", x, 7, new int[] {0, 1}, 0, 2);
        mapRow("map", x, 8, new int[] {0, 1}, 0);
        for (int i = 0; i <= 57; i++) {
            int at = i;
            due.is("no HEIGHT", -2, () -> x.map(9, at));
        }
        FlowChain y = coded(0, 0, 3, 4, 15, 0);
        y.fix(4, true, 1);
        y.verify();
        due.is("AT puts the ROW's LABEL", 1, () -> y.map(2, 28));
        y.fix(4, true, -1);
        y.verify();
        due.is("or BOTTOM", 0, () -> y.map(2, 28));
        FlowChain z = coded(13, 2, 3, 4, 15, 0);
        z.verify();
        due.is("and the index's", 2, () -> z.map(2, 28));
    }

    private static void mapLimits() {
        FlowChain x = coded(15, 0, 15, 0);
        due.fails("no VERIFYING yet", Due.STATE, () -> x.map(0, 0));
        due.fails("i comes first", Due.ARGUMENT, () -> x.map(0, 58));
        due.fails("the state comes before the INSTRUCTION", Due.STATE, () -> x.map(2, 0));
        x.verify();
        int[] bad = {-1, 58, Integer.MIN_VALUE, Integer.MAX_VALUE};
        for (int i : bad) {
            due.fails("i " + i, Due.ARGUMENT, () -> x.map(0, i));
            due.fails("i comes before the INSTRUCTION", Due.ARGUMENT, () -> x.map(-1, i));
        }
        int[] none = {-1, 2, 64, Integer.MIN_VALUE, Integer.MAX_VALUE};
        for (int i : none) {
            due.fails("INSTRUCTION " + i, Due.ELEMENT, () -> x.map(i, 0));
        }
        due.is("an INSTRUCTION without HEIGHT is there", -2, () -> x.map(1, 27));
    }

    private static void levels() {
        // if a{b=1;}else{c=1;} d=b; with a of LABEL 1
        FlowChain x = Due.compiled(Due.chain(3), "var a:1;if a{b=1;}else{c=1;}d=b;");
        due.is("all", 10, x::verify);
        int[] levels = {0, 0, 1, 1, 1, 1, 1, 0, 0, 0};
        for (int i = 0; i < 10; i++) {
            int at = i;
            due.is("LEVEL of " + i, levels[i], () -> x.map(at, 26));
        }
        due.is("what is put has the LEVEL", 1, () -> x.map(3, 28));
        due.is("b behind it", 1, () -> x.map(7, 1));
        due.is("c behind it", 1, () -> x.map(7, 2));
        due.is("d at last", 1, () -> x.map(9, 3));
        due.is("e at last", 0, () -> x.map(9, 4));
        // a loop's own ZERO and E are in its REGION
        FlowChain y = Due.compiled(Due.chain(3), "while a{in a:2;}b=1;");
        due.fails("IN at a LEVEL of 2 is of 2", Due.STATE, () -> y.map(0, 0));
        due.is("all of the loop", 8, y::verify);
        int[] loop = {2, 2, 2, 2, 2, 0, 0, 0};
        for (int i = 0; i < 8; i++) {
            int at = i;
            due.is("LEVEL of " + i + " in a loop", loop[i], () -> y.map(at, 26));
        }
        due.is("a behind the loop", 2, () -> y.map(5, 0));
        due.is("b behind the loop", 0, () -> y.map(7, 1));
        // REGIONS within REGIONS: the LEVEL of the inner ZERO counts, too
        FlowChain d = Due.compiled(Due.diamond(), "var a:1;var b:2;if a{if b{c=1;}d=1;}");
        due.is("within", 9, d::verify);
        int[] inner = {0, 0, 1, 1, 3, 3, 1, 1, 0};
        for (int i = 0; i < 9; i++) {
            int at = i;
            due.is("LEVEL of " + i + " within", inner[i], () -> d.map(at, 26));
        }
        due.is("c", 3, () -> d.map(8, 2));
        due.is("d", 1, () -> d.map(8, 3));
    }

    private static void region(String what, FlowChain x, int zero, int next, int... inside) {
        due.is(what + ": NEXT of " + zero, next, () -> x.region(zero, -1));
        for (int q = 0; q < x.count(3); q++) {
            int at = q;
            int is = 0;
            for (int i : inside) {
                is = i == q ? 1 : is;
            }
            due.is(what + ": " + q + " in the REGION of " + zero, is, () -> x.region(zero, at));
        }
    }

    private static FlowChain verified(int... pairs) {
        FlowChain x = coded(pairs);
        x.verify();
        return x;
    }

    private static void regions() {
        FlowChain x = Due.compiled(Due.chain(2), "if a{b=1;}c=1;");
        x.verify();
        region("if", x, 1, 4, 2, 3);
        FlowChain y = Due.compiled(Due.chain(2), "if a{b=1;}else{c=1;}");
        y.verify();
        region("else", y, 1, 7, 2, 3, 4, 5, 6);
        FlowChain z = Due.compiled(Due.chain(2), "while a{b=1;}");
        z.verify();
        region("while", z, 1, 5, 0, 1, 2, 3, 4);
        region("two HALTs", verified(1, 0, 11, 3, 15, 0, 15, 0), 1, -1, 2, 3);
        region("one HALT on both ways", verified(1, 0, 11, 2, 15, 0), 1, 2);
        region("no way to a HALT", verified(1, 0, 11, 0, 12, 2, 15, 0), 1, -1, 0, 1, 2);
        region("one way without an end", verified(1, 0, 11, 3, 12, 2, 15, 0), 1, 3, 2);
        // the first on the way stands behind the others in the CODE
        region("first on the way, not by number",
                verified(12, 3, 15, 0, 12, 1, 1, 0, 11, 7, 0, 1, 2, 1, 12, 2), 4, 7, 5, 6);
        region("before it", verified(12, 2, 15, 0, 1, 0, 11, 1, 12, 1), 3, 1, 4);
        // behind the ZERO, back over it: not NEXT, since the other way goes by
        region("back over it", verified(1, 0, 11, 4, 1, 1, 11, 0, 15, 0), 1, 4, 0, 1, 2, 3);
        region("its second ZERO", verified(1, 0, 11, 4, 1, 1, 11, 0, 15, 0), 3, 4, 0, 1, 2, 3);
        region("a ZERO out of the loop by a second HALT",
                verified(1, 0, 11, 6, 1, 1, 11, 7, 0, 0, 11, 0, 15, 0, 15, 0), 1, -1, 0, 1, 2, 3, 4, 5, 6, 7);
    }

    private static void farRegions() {
        // a way by INSTRUCTION 0, which has another way to the HALT
        region("over the first", verified(1, 0, 11, 6, 1, 1, 11, 0, 0, 0, 2, 0, 15, 0), 3, 6, 0, 1, 2, 3, 4, 5);
        region("NEXT is the first", verified(1, 0, 11, 3, 15, 0, 1, 1, 11, 6, 12, 0, 12, 0), 4, 0, 5, 6);
        int[] whole = new int[128];
        java.util.Arrays.fill(whole, 15);
        whole[0] = 1;
        whole[2] = 11;
        whole[3] = 63;
        region("the last is in it", verified(whole), 1, -1, 2, 63);
    }

    /** What an earlier VERIFYING found is not in the next one. */
    private static void again() {
        FlowChain x = verified(13, 2, 11, 4, 0, 1, 2, 0, 15, 0, 12, 5);
        due.is("a LEVEL", 2, () -> x.map(2, 26));
        x.clear();
        Due.coded(x, 0, 1, 11, 3, 0, 1, 2, 0, 12, 4, 15, 0);
        due.fails("a fault", Due.UNSUPPORTED, x::verify);
        due.told("a fault", 2, 5, x);
        x.clear();
        Due.coded(x, 1, 0, 11, 3, 12, 2, 1, 0, 11, 6, 12, 5, 15, 0);
        due.is("another code", 7, x::verify);
        for (int i = 0; i < 7; i++) {
            int at = i;
            due.is("no LEVEL", 0, () -> x.map(at, 26));
            due.is("no LABEL", 0, () -> x.map(at, 0));
        }
        region("a new HALT", x, 1, 3, 2);
        region("a new HALT", x, 4, 6, 5);
        x.clear();
        Due.coded(x, 1, 0, 11, 3, 12, 2, 12, 4, 12, 5, 12, 6, 12, 3);
        due.is("no HALT any more", 7, x::verify);
        region("no old HALT", x, 1, -1, 2, 3, 4, 5, 6);
    }

    private static void regionLimits() {
        FlowChain x = coded(1, 0, 11, 3, 15, 0, 15, 0, 11, 0, 15, 0);
        due.fails("no VERIFYING yet", Due.STATE, () -> x.region(1, -1));
        due.fails("q comes first", Due.ARGUMENT, () -> x.region(1, -2));
        x.verify();
        int[] bad = {-2, 64, Integer.MIN_VALUE, Integer.MAX_VALUE};
        for (int q : bad) {
            due.fails("q " + q, Due.ARGUMENT, () -> x.region(1, q));
        }
        int[] none = {-1, 6, 63, Integer.MIN_VALUE, Integer.MAX_VALUE};
        for (int i : none) {
            due.fails("INSTRUCTION " + i, Due.ELEMENT, () -> x.region(i, -1));
            due.fails("INSTRUCTION " + i + ", q 0", Due.ELEMENT, () -> x.region(i, 0));
        }
        due.fails("q is not there", Due.ELEMENT, () -> x.region(1, 6));
        due.fails("q 63 is not there", Due.ELEMENT, () -> x.region(1, 63));
        due.fails("q is not there, and no ZERO", Due.ELEMENT, () -> x.region(0, 6));
        due.fails("no ZERO", Due.UNSUPPORTED, () -> x.region(0, -1));
        due.fails("no ZERO, q 1", Due.UNSUPPORTED, () -> x.region(2, 1));
        due.fails("a ZERO without HEIGHT", Due.UNSUPPORTED, () -> x.region(4, -1));
        due.fails("a ZERO without HEIGHT, q 0", Due.UNSUPPORTED, () -> x.region(4, 0));
        due.is("q without HEIGHT", 0, () -> x.region(1, 5));
        due.is("q in it", 1, () -> x.region(1, 3));
    }

    private static void whenMapsStay() {
        FlowChain x = coded(13, 1, 14, 0, 15, 0);
        bad("KIND 6", 1, 6, x);
        due.is("it leaves the maps", 1, () -> x.map(1, 28));
        x.feed(0, 1);
        x.append('a', 1);
        due.is("other calls leave them", 1, () -> x.map(1, 28));
        due.fails("bad text", Due.ELEMENT, x::compile);
        due.is("a compile that fails leaves them", 1, () -> x.map(1, 28));
        due.fails("bad again", Due.UNSUPPORTED, x::verify);
        due.is("KIND 6 again, too", 1, () -> x.map(1, 28));
        x.code(11, 9);
        due.fails("code takes them", Due.STATE, () -> x.map(1, 28));
        due.fails("a fault before 6", Due.UNSUPPORTED, x::verify);
        due.told("a fault before 6", 3, 1, x);
        due.fails("leaves none", Due.STATE, () -> x.map(1, 28));
        due.fails("nor regions", Due.STATE, () -> x.region(3, -1));
        FlowChain y = Due.compiled(Due.chain(2), "if a{}");
        y.verify();
        due.is("regions", 2, () -> y.region(1, -1));
        Due.compiled(y, "if a{}");
        due.fails("compile takes them", Due.STATE, () -> y.region(1, -1));
    }
}
