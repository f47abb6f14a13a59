/** Sentences that name edges: of VERIFIED in the terms, and of promises 10 to 12. */
public final class EdgesOfVerifyTest {
    private static final Due due = new Due();
    private static final int LEAST = Integer.MIN_VALUE;
    private static final int MOST = Integer.MAX_VALUE;

    public static void main(String[] args) {
        order();
        arguments();
        last();
        heightAtFirst();
        leastFirst();
        takes();
        notMoreThanThirty();
        nothingLeft();
        sameHeight();
        nexts();
        noNext();
        regions();
        levels();
        atFirst();
        puts();
        stores();
        nextHas();
        sixth();
        notThere();
        fails();
        answers();
        keptMaps();
        mapRange();
        mapState();
        mapAnswers();
        noSuchInstruction();
        regionAnswers();
        regionRefusals();
        due.end();
    }

    private static FlowChain coded(int... pairs) {
        return Due.coded(Due.chain(3), pairs);
    }

    private static FlowChain verified(int... pairs) {
        FlowChain x = coded(pairs);
        x.verify();
        return x;
    }

    private static void good(String what, int heights, int... pairs) {
        FlowChain x = coded(pairs);
        due.is(what, heights, x::verify);
        due.told(what, -1, -1, x);
    }

    private static void bad(String what, int place, int kind, int... pairs) {
        bad(what, place, kind, coded(pairs));
    }

    private static void bad(String what, int place, int kind, FlowChain x) {
        due.fails(what, Due.UNSUPPORTED, x::verify);
        due.told(what, place, kind, x);
    }

    private static void order() {
        due.sentence("VERIFIED, in this order; the first that fails is told, with the INSTRUCTION");
        bad("1 at 2 before 2 and 3", 2, 1, 2, 0, 15, 0, 1, 26);
        bad("1 at the last, which is not to be the last, either", 1, 1, 15, 0, 11, 2);
        bad("2 before 3", 1, 2, 5, 0, 0, 0);
        bad("2 before 4 and 5", 3, 2, 0, 0, 0, 0, 12, 0, 2, 0);
        bad("3 before 6", 2, 3, 13, 2, 14, 0, 2, 0, 15, 0);
        bad("4 before 6", 3, 4, 13, 2, 14, 0, 0, 0, 12, 4, 15, 0);
        bad("5 before 6", 3, 5, 13, 2, 14, 0, 0, 0, 11, 3, 15, 0);
        bad("3 before 5 at the same", 0, 3, 11, 0, 15, 0);
        bad("4 before 5 at the same", 2, 4, 0, 0, 0, 0, 11, 0, 15, 0);
    }

    private static void arguments() {
        due.sentence("1 of each, in order: x of 1 .. 4 is 0 .. 25, of 13, 14 a LABEL, of 11, 12 an INSTRUCTION;");
        for (int operation = 0; operation <= 15; operation++) {
            int most = operation >= 1 && operation <= 4 ? 25 : operation == 13 || operation == 14 ? 2
                    : operation == 11 || operation == 12 ? 2 : -1;
            int[] xs = {LEAST, -1, 0, 1, 2, 3, 25, 26, 63, 64, MOST};
            for (int x : xs) {
                // it has no HEIGHT, so that nothing but 1 can fail
                if (most < 0 || x >= 0 && x <= most) {
                    good("x " + x + " of " + operation, 1, 15, 0, operation, x, 15, 0);
                } else {
                    bad("x " + x + " of " + operation, 1, 1, 15, 0, operation, x, 15, 0);
                }
            }
        }
        bad("the first in order", 1, 1, 15, 0, 14, 3, 13, 3, 1, 26, 15, 0);
        bad("at 0", 0, 1, 12, 1);
        for (int n = 1; n <= 6; n++) {
            FlowChain x = Due.coded(Due.chain(n), 13, n - 1, 14, n - 1, 15, 0);
            due.is("the last LABEL of " + n, 3, x::verify);
            x.code(13, n);
            bad("LABEL n of " + n, 3, 1, x);
        }
        int[] whole = new int[128];
        java.util.Arrays.fill(whole, 15);
        whole[0] = 12;
        whole[1] = 63;
        good("the last of 64", 2, whole);
        whole[1] = 64;
        bad("one behind the last of 64", 0, 1, whole);
    }

    private static void last() {
        due.sentence("2 the last one is 12 or 15.");
        for (int operation = 0; operation <= 15; operation++) {
            if (operation == 12 || operation == 15) {
                good("the last is " + operation, 1, 15, 0, operation, 0);
            } else {
                bad("the last is " + operation, 1, 2, 15, 0, operation, 0);
                bad("the only one is " + operation, 0, 2, operation, 0);
            }
        }
        good("GOTO alone", 1, 12, 0);
        good("HALT alone", 1, 15, 0);
    }

    private static void heightAtFirst() {
        due.sentence("HEIGHTS: 0 at INSTRUCTION 0");
        FlowChain x = verified(0, 0, 2, 0, 12, 0);
        due.is("0 at first", 0, () -> x.map(0, 27));
        due.is("then 1", 1, () -> x.map(1, 27));
        due.is("and 0 again", 0, () -> x.map(2, 27));
        for (int operation = 2; operation <= 11; operation++) {
            bad("nothing to take at first for " + operation, 0, 3, operation, 0, 15, 0);
        }
        bad("back to the first with one", 1, 4, 0, 0, 12, 0);
    }

    private static void leastFirst() {
        due.sentence("as long as one that has a HEIGHT was not looked at, the least such one is");
        // 2 gives HEIGHTS to 3 and 1; both fail, 1 is less
        bad("back before it goes on", 1, 3, 12, 2, 2, 0, 0, 0, 11, 1, 5, 0, 15, 0);
        // from 0 to 4, back to 1: 5 would fail too, but 1 .. 3 come first
        bad("the least, not the latest", 3, 3, 0, 0, 11, 4, 12, 3, 2, 0, 2, 0, 15, 0);
        good("what has none is never looked at", 2, 12, 4, 5, 0, 2, 0, 14, 0, 15, 0);
    }

    private static void takes() {
        due.sentence("3 there is what it takes");
        int[] taken = {0, 0, 1, 1, 2, 2, 2, 2, 2, 2, 2, 1, 0, 0, 1, 0};
        for (int operation = 0; operation <= 15; operation++) {
            for (int there = 0; there <= 2; there++) {
                int[] pairs = new int[2 * there + 4];
                pairs[2 * there] = operation;
                pairs[2 * there + 2] = 15;
                boolean jumps = operation == 11 || operation == 12;
                if (jumps) {
                    pairs[2 * there + 1] = there + 1;
                }
                if (there < taken[operation]) {
                    bad(there + " there for " + operation, there, 3, pairs);
                } else if (!jumps || there == taken[operation]) {
                    good(there + " there for " + operation, operation == 15 ? there + 1 : there + 2, pairs);
                }
            }
        }
    }

    /** So many PUSHes, then that operation, and HALT. */
    private static int[] high(int pushes, int operation) {
        int[] pairs = new int[2 * pushes + 4];
        pairs[2 * pushes] = operation;
        pairs[2 * pushes + 2] = 15;
        return pairs;
    }

    private static void notMoreThanThirty() {
        due.sentence("and not more than 30 behind it");
        int[] puts = {0, 1, 13};
        for (int operation : puts) {
            good("the 30th by " + operation, 31, high(29, operation));
            bad("the 31st by " + operation, 30, 3, high(30, operation));
        }
        good("30 and AT", 32, high(30, 3));
        good("30 and ADD", 32, high(30, 5));
        good("30 and STORE", 32, high(30, 2));
        FlowChain x = coded(high(29, 0));
        x.verify();
        due.is("30 behind it", 30, () -> x.map(30, 27));
    }

    private static void nothingLeft() {
        due.sentence("4 for 11, 12 nothing is left");
        good("GOTO upon nothing", 2, 12, 1, 15, 0);
        bad("GOTO upon one", 1, 4, 0, 0, 12, 2, 15, 0);
        good("ZERO upon one", 3, 0, 0, 11, 2, 15, 0);
        bad("ZERO upon two", 2, 4, 0, 0, 0, 0, 11, 3, 15, 0);
        good("GOTO behind TO", 5, 0, 0, 0, 0, 4, 0, 12, 4, 15, 0);
        good("GOTO behind STORE", 4, 0, 0, 2, 0, 12, 3, 15, 0);
        good("GOTO behind OUT", 4, 0, 0, 14, 0, 12, 3, 15, 0);
        bad("GOTO behind AT", 2, 4, 0, 0, 3, 0, 12, 3, 15, 0);
        bad("ZERO upon 30", 30, 4, high(30, 11));
        bad("GOTO upon 30", 30, 4, high(30, 12));
        good("HALT upon one", 2, 0, 0, 15, 0);
        good("HALT upon 30", 31, high(30, 15));
    }

    private static void sameHeight() {
        due.sentence("each that can be next has no HEIGHT yet, and gets that behind it, or has the same, else 5.");
        good("the same by both ways", 5, 0, 0, 11, 4, 0, 1, 2, 0, 15, 0);
        bad("0 by the ZERO, 1 by the PUSH", 2, 5, 0, 0, 11, 3, 0, 1, 15, 0);
        bad("told at the one that is looked at", 3, 5, 12, 1, 0, 0, 11, 4, 13, 0, 15, 0);
        bad("a ZERO to itself", 1, 5, 0, 0, 11, 1, 15, 0);
        good("a GOTO to itself", 1, 12, 0);
        good("a ZERO to the next", 3, 0, 0, 11, 2, 15, 0);
        good("a ZERO to the first", 3, 0, 0, 11, 0, 15, 0);
        bad("a GOTO into a stack", 3, 5, 0, 0, 2, 0, 0, 0, 11, 1, 15, 0);
    }

    private static void region(String what, FlowChain x, int zero, int next, int... inside) {
        due.is(what + ": NEXT of " + zero, next, () -> x.region(zero, -1));
        for (int q = 0; q < x.count(3); q++) {
            int at = q;
            int is = 0;
            for (int i : inside) {
                is = i == q ? 1 : is;
            }
            due.is(what + ": " + q + " in the REGION of " + zero, is, () -> x.region(zero, at));
        }
    }

    private static void nexts() {
        due.sentence("NEXT of a ZERO: of the INSTRUCTIONS but itself that are on each way from it to any HALT, the one that comes first");
        region("to the next", verified(0, 0, 11, 2, 15, 0), 1, 2);
        region("a HALT itself", verified(0, 0, 11, 4, 0, 1, 2, 0, 15, 0), 1, 4, 2, 3);
        region("the first of several", verified(0, 0, 11, 4, 0, 1, 2, 0, 0, 1, 2, 0, 15, 0), 1, 4, 2, 3);
        region("before it", verified(12, 2, 15, 0, 0, 0, 11, 1, 12, 1), 3, 1, 4);
        region("by the way, not by number", verified(12, 3, 15, 0, 12, 1, 0, 0, 11, 7, 0, 1, 2, 1, 12, 2), 4, 7, 5, 6);
        region("INSTRUCTION 0", verified(1, 0, 11, 3, 15, 0, 0, 0, 11, 6, 12, 0, 12, 0), 4, 0, 5, 6);
        // a way that comes back over it does not make it its own NEXT
        region("not itself", verified(0, 0, 11, 3, 12, 0, 15, 0), 1, 3, 0, 1, 2);
        region("over the first", verified(1, 0, 11, 6, 1, 1, 11, 0, 0, 0, 2, 0, 15, 0), 3, 6, 0, 1, 2, 3, 4, 5);
        region("not what only one way has", verified(0, 0, 11, 5, 0, 0, 11, 6, 12, 6, 12, 6, 15, 0), 1, 6, 2, 3, 4, 5);
        region("of a ZERO in that", verified(0, 0, 11, 5, 0, 0, 11, 6, 12, 6, 12, 6, 15, 0), 3, 6, 4);
    }

    private static void noNext() {
        due.sentence("none if there is none, or no such way.");
        region("two HALTs", verified(0, 0, 11, 3, 15, 0, 15, 0), 1, -1, 2, 3);
        region("no HALT", verified(0, 0, 11, 0, 12, 2), 1, -1, 0, 1, 2);
        region("a HALT that can't be reached", verified(0, 0, 11, 0, 12, 2, 15, 0), 1, -1, 0, 1, 2);
        region("one side never ends", verified(0, 0, 11, 3, 12, 2, 15, 0), 1, 3, 2);
        region("the other side never ends", verified(0, 0, 11, 3, 15, 0, 12, 3), 1, 2, 3);
        FlowChain again = verified(0, 0, 11, 2, 15, 0, 15, 0);
        again.clear();
        Due.coded(again, 0, 0, 11, 3, 12, 2, 12, 3);
        again.verify();
        region("where HALTs were in an earlier CODE", again, 1, -1, 2, 3);
        region("far apart", verified(0, 0, 11, 6, 0, 1, 2, 0, 12, 5, 15, 0, 15, 0), 1, -1, 2, 3, 4, 5, 6);
    }

    private static void regions() {
        due.sentence("Its REGION: all that can be reached from it (by one step or more) without coming to NEXT, which is not in it.");
        region("nothing", verified(0, 0, 11, 2, 15, 0), 1, 2);
        region("itself, by a loop", verified(0, 0, 11, 3, 12, 0, 15, 0), 1, 3, 0, 1, 2);
        region("not itself without a loop", verified(0, 0, 11, 3, 12, 3, 15, 0), 1, 3, 2);
        // behind NEXT there is a way back into it, which doesn't count
        region("not by NEXT", verified(0, 0, 11, 3, 12, 3, 0, 0, 11, 0, 15, 0), 1, 3, 2);
        region("the one behind, round both", verified(0, 0, 11, 3, 12, 3, 0, 0, 11, 0, 15, 0), 4, 5, 0, 1, 2, 3, 4);
        int[] whole = new int[128];
        for (int i = 0; i < 64; i++) {
            whole[2 * i] = 12;
            whole[2 * i + 1] = i + 1;
        }
        whole[0] = 0;
        whole[2] = 11;
        whole[3] = 63;
        whole[126] = 15;
        int[] inside = new int[61];
        for (int k = 0; k < 61; k++) {
            inside[k] = k + 2;
        }
        region("all of 64 between", verified(whole), 1, 63, inside);
        whole[126] = 12;
        whole[127] = 0;
        int[] all = new int[64];
        for (int k = 0; k < 64; k++) {
            all[k] = k;
        }
        region("all of 64 without an end", verified(whole), 1, -1, all);
    }

    private static void levels(String what, FlowChain x, int... levels) {
        for (int i = 0; i < levels.length; i++) {
            int at = i;
            due.is(what + ": LEVEL of " + i, levels[i], () -> x.map(at, 26));
        }
    }

    private static void levels() {
        due.sentence("the LEVEL of all in the REGION of a ZERO has the LEVEL of that and the LABEL of what it takes BELOW it");
        levels("nothing", verified(13, 2, 11, 2, 15, 0), 0, 0, 0);
        levels("between", verified(13, 2, 11, 4, 0, 1, 2, 0, 15, 0), 0, 0, 2, 2, 0);
        levels("a loop", verified(13, 2, 11, 3, 12, 0, 15, 0), 2, 2, 2, 0);
        levels("no NEXT", verified(13, 1, 11, 3, 15, 0, 15, 0), 0, 0, 1, 1);
        levels("no NEXT for ever", verified(13, 1, 11, 3, 12, 2, 12, 3), 0, 0, 1, 1);
        FlowChain x = Due.coded(Due.diamond(), 13, 1, 11, 6, 13, 3, 11, 5, 12, 5, 12, 6, 15, 0);
        x.verify();
        levels("one within the other", x, 0, 0, 1, 1, 3, 1, 0);
        FlowChain y = Due.coded(Due.diamond(), 13, 1, 11, 6, 0, 1, 11, 5, 12, 5, 12, 6, 15, 0);
        y.verify();
        levels("the LEVEL of that, too", y, 0, 0, 1, 1, 1, 1, 0);
        // the LEVEL rises when what it is for has been looked at
        FlowChain late = coded(0, 1, 2, 1, 13, 2, 11, 5, 12, 0, 15, 0);
        late.verify();
        levels("a loop whose ZERO comes last", late, 2, 2, 2, 2, 2, 0);
        due.is("what is put at that LEVEL", 2, () -> late.map(1, 28));
        due.is("what is set at that LEVEL", 2, () -> late.map(5, 1));
        levels("one behind the other", verified(13, 2, 11, 3, 12, 3, 13, 1, 11, 6, 12, 6, 15, 0), 0, 0, 2, 0, 0, 1, 0);
    }

    private static void atFirst() {
        due.sentence("Each INSTRUCTION with a HEIGHT has a LEVEL, and a LABEL for each VARIABLE and place of the STACK before it;"
                + " these are the least with: at 0 as in FLOWS;");
        FlowChain x = new FlowChain(3);
        x.below(1, 2);
        x.below(2, 0);
        x.seal();
        Due.coded(x, 0, 0, 2, 3, 15, 0);
        x.fix(0, false, 0);
        x.fix(25, false, 2);
        x.verify();
        for (int i = 0; i < 3; i++) {
            int at = i;
            due.is("a FIXED one has its own", 0, () -> x.map(at, 0));
            due.is("the last, too", 2, () -> x.map(at, 25));
            due.is("others have BOTTOM", 1, () -> x.map(at, 3));
            due.is("the LEVEL is BOTTOM", 1, () -> x.map(at, 26));
        }
        due.is("the STACK has no more than it needs", 1, () -> x.map(1, 28));
        FlowChain again = coded(1, 0, 11, 5, 13, 2, 2, 0, 12, 0, 15, 0);
        again.verify();
        due.is("round to the first", 2, () -> again.map(0, 0));
        again.clear();
        Due.coded(again, 1, 0, 11, 5, 13, 0, 2, 0, 12, 0, 15, 0);
        again.verify();
        for (int i = 0; i < 6; i++) {
            int at = i;
            due.is("nothing is left of an earlier CODE", 0, () -> again.map(at, 0));
            due.is("nor of its LEVELS", 0, () -> again.map(at, 26));
        }
    }

    private static void puts() {
        due.sentence("what is put has the JOIN of the LEVEL, all that is taken, and of VARIABLE, ROW x or LABEL x for 1, 3, 13");
        FlowChain x = coded(0, 9, 1, 0, 13, 1, 0, 0, 3, 0, 15, 0);
        x.fix(0, false, 2);
        x.fix(0, true, 1);
        x.verify();
        int[] places = {0, 2, 1, 1};
        for (int j = 0; j < 4; j++) {
            int at = 28 + j;
            due.is("place " + j, places[j], () -> x.map(5, at));
        }
        for (int operation = 5; operation <= 10; operation++) {
            FlowChain y = Due.coded(Due.diamond(), 13, 1, 13, 2, operation, 0, 15, 0);
            y.verify();
            due.is("both that are taken by " + operation, 3, () -> y.map(3, 28));
        }
        FlowChain index = Due.coded(Due.diamond(), 13, 1, 3, 25, 15, 0);
        index.fix(25, true, 2);
        index.verify();
        due.is("ROW and index", 3, () -> index.map(2, 28));
        FlowChain level = Due.coded(Due.diamond(), 13, 1, 11, 6, 0, 0, 2, 0, 13, 3, 2, 1, 15, 0);
        level.verify();
        due.is("the LEVEL for PUSH", 1, () -> level.map(3, 28));
        due.is("LABEL and LEVEL for IN", 3, () -> level.map(5, 28));
        FlowChain least = new FlowChain(2);
        least.below(1, 0);
        least.seal();
        Due.coded(least, 0, 0, 15, 0);
        least.verify();
        due.is("BOTTOM for PUSH", 1, () -> least.map(1, 28));
    }

    private static void stores() {
        due.sentence("STORE: x has, unless FIXED, that of LEVEL and v behind it");
        int[] names = {0, 25};
        for (int name : names) {
            FlowChain x = coded(13, 1, 2, name, 0, 0, 2, name, 15, 0);
            x.verify();
            due.is("before", 0, () -> x.map(1, name));
            due.is("behind", 1, () -> x.map(2, name));
            due.is("and less again", 0, () -> x.map(4, name));
            x.fix(name, false, 2);
            x.verify();
            for (int i = 0; i <= 4; i++) {
                int at = i;
                due.is("FIXED", 2, () -> x.map(at, name));
            }
            FlowChain y = coded(13, 1, 11, 4, 0, 0, 2, name, 15, 0);
            y.verify();
            due.is("the LEVEL", 1, () -> y.map(4, name));
        }
    }

    private static void nextHas() {
        due.sentence("all that an INSTRUCTION has behind it is BELOW what each that can be next has.");
        FlowChain x = Due.coded(Due.diamond(), 0, 0, 11, 5, 13, 1, 2, 0, 12, 7, 13, 2, 2, 0, 15, 0);
        x.verify();
        due.is("the JOIN of both ways", 3, () -> x.map(7, 0));
        due.is("one way", 1, () -> x.map(4, 0));
        due.is("the other way", 0, () -> x.map(5, 0));
        FlowChain fork = coded(13, 1, 2, 0, 0, 0, 11, 5, 15, 0, 15, 0);
        fork.fix(25, false, 2);
        fork.verify();
        for (int i = 4; i <= 5; i++) {
            int at = i;
            due.is("each of both that can be next", 1, () -> fork.map(at, 0));
            due.is("a FIXED one, too", 2, () -> fork.map(at, 25));
        }
        FlowChain back = coded(12, 2, 15, 0, 13, 1, 2, 0, 0, 0, 11, 1, 12, 1);
        back.verify();
        due.is("one before it", 1, () -> back.map(1, 0));
        due.is("one behind it", 1, () -> back.map(6, 0));
        FlowChain first = coded(13, 1, 2, 0, 0, 0, 11, 0, 15, 0);
        first.verify();
        due.is("the first", 1, () -> first.map(0, 0));
        due.is("the one behind the ZERO to the first", 1, () -> first.map(4, 0));
        FlowChain loop = coded(1, 0, 11, 5, 13, 2, 2, 0, 12, 0, 15, 0);
        loop.verify();
        due.is("round to the first", 2, () -> loop.map(0, 0));
        due.is("the first has a LEVEL by that, too", 2, () -> loop.map(0, 26));
        int[] chain = new int[2 * 54];
        for (int k = 0; k < 25; k++) {
            chain[4 * k] = 1;
            chain[4 * k + 1] = k + 1;
            chain[4 * k + 2] = 2;
            chain[4 * k + 3] = k;
        }
        chain[100] = 13;
        chain[101] = 2;
        chain[102] = 2;
        chain[103] = 25;
        chain[104] = 12;
        chain[105] = 0;
        chain[106] = 15;
        FlowChain far = coded(chain);
        due.is("all but the HALT", 53, far::verify);
        for (int name = 0; name < 26; name++) {
            int at = name;
            due.is("from the last VARIABLE to the first, one each round", 2, () -> far.map(0, at));
        }
    }

    private static void sixth() {
        due.sentence("Then 6 for each with a HEIGHT, in order: LEVEL and all that is taken BELOW the LABEL of FIXED x for 2,"
                + " of ROW x for 4, of LABEL x for 14; for 13 LEVEL BELOW LABEL x.");
        FlowChain store = coded(13, 1, 2, 0, 15, 0);
        int[][] fixed = {{0, 0}, {1, 1}, {2, 1}, {-1, 1}};
        for (int[] f : fixed) {
            store.fix(0, false, f[0]);
            if (f[1] == 1) {
                due.is("STORE to " + f[0], 3, store::verify);
            } else {
                bad("STORE to " + f[0], 1, 6, store);
            }
        }
        FlowChain to = coded(0, 0, 13, 1, 4, 25, 13, 1, 0, 0, 4, 24, 15, 0);
        // the LABELS of both ROWS, and where it fails, -1 if it does not
        int[][] rows = {{-1, 2, 2}, {0, 2, 2}, {1, 1, -1}, {2, 2, -1}, {1, 0, 5}, {2, -1, 5}};
        for (int[] r : rows) {
            to.fix(25, true, r[0]);
            to.fix(24, true, r[1]);
            if (r[2] < 0) {
                due.is("TO " + r[0] + " and " + r[1], 7, to::verify);
            } else {
                bad("TO " + r[0] + " and " + r[1], r[2], 6, to);
            }
        }
        bad("OUT", 1, 6, 13, 1, 14, 0, 15, 0);
        good("OUT to the same", 3, 13, 1, 14, 1, 15, 0);
        good("OUT to a higher one", 3, 13, 1, 14, 2, 15, 0);
        bad("OUT at a LEVEL", 3, 6, 13, 2, 11, 4, 0, 0, 14, 1, 15, 0);
        bad("IN at a LEVEL", 2, 6, 13, 2, 11, 4, 13, 1, 2, 0, 15, 0);
        good("IN at the same LEVEL", 5, 13, 2, 11, 4, 13, 2, 2, 0, 15, 0);
        bad("the first in order, not by the way", 4, 6,
                13, 2, 2, 0, 12, 6, 1, 0, 14, 0, 15, 0, 1, 0, 14, 1, 12, 3);
        good("one without a HEIGHT may be so", 1, 15, 0, 13, 2, 14, 0, 15, 0);
        bad("INSTRUCTION 0, in a loop", 0, 6, 13, 1, 2, 0, 13, 2, 11, 5, 12, 0, 15, 0);
        FlowChain ground = coded(0, 0, 1, 0, 4, 0, 15, 0);
        ground.fix(0, false, 0);
        due.is("FIXED at BOTTOM, to a ROW of BOTTOM", 4, ground::verify);
    }

    private static void notThere() {
        due.sentence("It is not SEALED, or there is no CODE: IllegalStateException.");
        FlowChain x = new FlowChain(2);
        due.fails("neither", Due.STATE, x::verify);
        x.code(15, 0);
        due.fails("not SEALED", Due.STATE, x::verify);
        x.below(0, 1);
        due.fails("not SEALED yet", Due.STATE, x::verify);
        x.seal();
        due.is("both", 1, x::verify);
        x.clear();
        due.fails("no CODE", Due.STATE, x::verify);
    }

    private static void fails() {
        due.sentence("One of 1 .. 6 fails: UnsupportedOperationException; PLACE is the INSTRUCTION, KIND its number; nothing is VERIFIED.");
        int[][] codes = {{15, 0, 1, 26, 15, 0}, {15, 0, 14, 0}, {0, 0, 5, 0, 15, 0}, {0, 0, 12, 0}, {0, 0, 11, 1, 15, 0},
            {13, 1, 14, 0, 15, 0}};
        for (int kind = 1; kind <= 6; kind++) {
            FlowChain x = verified(15, 0);
            due.is("VERIFIED", 1, () -> x.count(4));
            x.clear();
            Due.coded(x, codes[kind - 1]);
            bad("KIND " + kind, 1, kind, x);
            due.is("nothing is VERIFIED", 0, () -> x.count(4));
            due.fails("no run", Due.UNSUPPORTED, () -> x.run(600));
            bad("KIND " + kind + " again", 1, kind, x);
            if (kind < 6) {
                due.fails("no maps", Due.STATE, () -> x.map(0, 0));
                due.fails("no regions", Due.STATE, () -> x.region(0, 0));
            }
        }
    }

    private static void answers() {
        due.sentence("Answers how many INSTRUCTIONS have a HEIGHT.");
        good("one of one", 1, 15, 0);
        good("one of three", 1, 15, 0, 12, 0, 15, 0);
        good("two of three", 2, 12, 2, 12, 0, 15, 0);
        int[] whole = new int[128];
        for (int i = 0; i < 64; i++) {
            whole[2 * i] = 12;
            whole[2 * i + 1] = (i + 1) % 64;
        }
        good("64 of 64", 64, whole);
        whole[1] = 0;
        good("one of 64", 1, whole);
    }

    private static void keptMaps() {
        due.sentence("(KIND 6, too, leaves the maps.)");
        FlowChain x = coded(13, 2, 11, 4, 0, 0, 14, 1, 15, 0);
        bad("KIND 6", 3, 6, x);
        due.is("a map", 2, () -> x.map(1, 28));
        due.is("a LEVEL", 2, () -> x.map(2, 26));
        due.is("a REGION", 4, () -> x.region(1, -1));
        due.is("in it", 1, () -> x.region(1, 3));
        due.is("not VERIFIED", 0, () -> x.count(4));
    }

    private static void mapRange() {
        due.sentence("i 0 .. 57");
        FlowChain x = verified(high(29, 0));
        for (int i = 0; i <= 57; i++) {
            int at = i;
            due.is("i " + i, i == 27 ? 30 : 0, () -> x.map(30, at));
        }
        int[] wrong = {-1, 58, LEAST, MOST};
        for (int i : wrong) {
            due.fails("i " + i, Due.ARGUMENT, () -> x.map(30, i));
        }
    }

    private static FlowChain withMaps() {
        return verified(0, 0, 11, 2, 15, 0);
    }

    private static void mapsAre(String what, boolean there, FlowChain x) {
        if (there) {
            due.is(what + ": a map", 0, () -> x.map(0, 27));
            due.is(what + ": a REGION", 2, () -> x.region(1, -1));
        } else {
            due.fails(what + ": no map", Due.STATE, () -> x.map(0, 27));
            due.fails(what + ": no REGION", Due.STATE, () -> x.region(1, -1));
        }
    }

    private static void mapState() {
        due.sentence("by the latest VERIFYING that got to 6, if nothing of the CODE, FIXED or ROWS' LABELS was set since then"
                + " and no later one failed before 6: IllegalStateException without.");
        mapsAre("not VERIFIED", false, coded(0, 0, 11, 2, 15, 0));
        FlowChain x = withMaps();
        mapsAre("VERIFIED", true, x);
        x.verify();
        mapsAre("again", true, x);
        x.code(15, 0);
        mapsAre("code", false, x);
        x.verify();
        mapsAre("VERIFIED anew", true, x);
        x.fix(0, false, -1);
        mapsAre("fix of a VARIABLE to what it is", false, x);
        x.verify();
        x.fix(25, true, 1);
        mapsAre("fix of a ROW", false, x);
        x.verify();
        mapsAre("VERIFIED once more", true, x);
        due.fails("code 16", Due.ARGUMENT, () -> x.code(16, 0));
        due.fails("fix 26", Due.ARGUMENT, () -> x.fix(26, false, 0));
        mapsAre("what is refused sets nothing", true, x);
        x.feed(0, 1);
        x.drain(0);
        x.run(600);
        due.fails("SYNTAX", Due.ELEMENT, () -> Due.put(x, "a").compile());
        due.fails("FLOW", Due.UNSUPPORTED, () -> Due.put(x, "var a:1;out a:0;").compile());
        due.fails("TOO LONG", Due.BOUNDS, () -> Due.put(x, Due.times("a=1;", 32)).compile());
        mapsAre("nor does a compile that fails", true, x);
        Due.compiled(x, "if 0{}");
        mapsAre("compile", false, x);
        x.verify();
        mapsAre("VERIFIED then", true, x);
        x.clear();
        mapsAre("clear", false, x);
        Due.coded(x, 0, 0, 11, 2, 15, 0, 0, 0);
        due.fails("one that fails before 6", Due.UNSUPPORTED, x::verify);
        mapsAre("one that fails before 6", false, x);
        x.code(15, 0);
        x.verify();
        mapsAre("one that does not", true, x);
    }

    private static void mapAnswers() {
        due.sentence("0 .. 25 the LABEL of a VARIABLE, 26 the LEVEL, 27 the HEIGHT, 28 + j the LABEL of place j of the STACK"
                + " from below, -1 behind it; -2 if it has no HEIGHT.");
        FlowChain x = coded(13, 1, 13, 2, 15, 0, 15, 0);
        x.fix(0, false, 2);
        x.fix(25, false, 1);
        x.verify();
        due.is("the first VARIABLE", 2, () -> x.map(2, 0));
        due.is("one between", 0, () -> x.map(2, 1));
        due.is("the last VARIABLE", 1, () -> x.map(2, 25));
        due.is("the LEVEL", 0, () -> x.map(2, 26));
        due.is("the HEIGHT", 2, () -> x.map(2, 27));
        due.is("the lowest place", 1, () -> x.map(2, 28));
        due.is("the place upon it", 2, () -> x.map(2, 29));
        due.is("behind it", -1, () -> x.map(2, 30));
        due.is("far behind it", -1, () -> x.map(2, 57));
        due.is("behind nothing", -1, () -> x.map(0, 28));
        for (int i = 0; i <= 57; i++) {
            int at = i;
            due.is("no HEIGHT", -2, () -> x.map(3, at));
        }
        FlowChain full = verified(high(29, 13));
        due.is("place 29", 0, () -> full.map(30, 57));
        due.is("place 29 before it is put", -1, () -> full.map(29, 57));
    }

    private static void noSuchInstruction() {
        due.sentence("No such INSTRUCTION: NoSuchElementException.");
        FlowChain x = verified(15, 0, 15, 0);
        int[] wrong = {-1, 2, 63, 64, LEAST, MOST};
        for (int i : wrong) {
            due.fails("INSTRUCTION " + i, Due.ELEMENT, () -> x.map(i, 27));
        }
        due.is("the first", 0, () -> x.map(0, 27));
        due.is("the last, without a HEIGHT", -2, () -> x.map(1, 27));
    }

    private static void regionAnswers() {
        due.sentence("with q -1: NEXT of an INSTRUCTION, -1 without; else whether INSTRUCTION q is in its REGION, 1 or 0.");
        FlowChain x = verified(0, 0, 11, 3, 12, 3, 15, 0);
        due.is("NEXT", 3, () -> x.region(1, -1));
        due.is("0 is not in it", 0, () -> x.region(1, 0));
        due.is("2 is in it", 1, () -> x.region(1, 2));
        due.is("NEXT is not in it", 0, () -> x.region(1, 3));
        FlowChain y = verified(0, 0, 11, 0, 12, 2);
        due.is("-1 without", -1, () -> y.region(1, -1));
        due.is("0 is in it", 1, () -> y.region(1, 0));
    }

    private static void regionRefusals() {
        due.sentence("It, or q above 0, is not there: NoSuchElementException");
        FlowChain x = verified(0, 0, 11, 3, 12, 3, 15, 0, 11, 4, 12, 4);
        int[] wrong = {-1, 6, 63, 64, LEAST, MOST};
        for (int i : wrong) {
            due.fails("INSTRUCTION " + i, Due.ELEMENT, () -> x.region(i, -1));
            due.fails("INSTRUCTION " + i + " with q 0", Due.ELEMENT, () -> x.region(i, 0));
        }
        due.fails("q one behind", Due.ELEMENT, () -> x.region(1, 6));
        due.fails("q 63", Due.ELEMENT, () -> x.region(1, 63));
        due.is("q the last", 0, () -> x.region(1, 5));
        due.is("q 0", 0, () -> x.region(1, 0));
        due.sentence("it is no ZERO, or has no HEIGHT: UnsupportedOperationException.");
        int[] noZeros = {0, 2, 3, 5};
        for (int i : noZeros) {
            due.fails("no ZERO at " + i, Due.UNSUPPORTED, () -> x.region(i, -1));
            due.fails("no ZERO at " + i + " with q 0", Due.UNSUPPORTED, () -> x.region(i, 0));
        }
        due.fails("a ZERO without a HEIGHT", Due.UNSUPPORTED, () -> x.region(4, -1));
        due.fails("a ZERO without a HEIGHT, q 4", Due.UNSUPPORTED, () -> x.region(4, 4));
        due.sentence("q -1 .. 63.");
        int[] wrongQ = {-2, 64, LEAST, MOST};
        for (int q : wrongQ) {
            due.fails("q " + q, Due.ARGUMENT, () -> x.region(1, q));
        }
        int[] whole = new int[128];
        java.util.Arrays.fill(whole, 15);
        whole[0] = 0;
        whole[2] = 11;
        whole[3] = 63;
        FlowChain all = verified(whole);
        due.is("q 63 of 64", 1, () -> all.region(1, 63));
        due.is("q 62 of 64", 0, () -> all.region(1, 62));
    }
}
