import java.util.Random;

/** Makes texts and codes by chance, from a given seed: most of them make sense. */
final class Programs {
    private final Random chance;
    private final int n;
    private StringBuilder text;
    private String rows;
    private String procs;
    private int open;

    Programs(Random chance, int n) {
        this.chance = chance;
        this.n = n;
    }

    private int upTo(int most) {
        return chance.nextInt(most + 1);
    }

    private boolean once(int in) {
        return chance.nextInt(in) == 0;
    }

    private char variable() {
        return (char) ('a' + chance.nextInt(once(20) ? 26 : 5));
    }

    private void label() {
        text.append(once(60) ? n : chance.nextInt(n));
    }

    private void gap() {
        if (once(6)) {
            text.append(once(3) ? "  " : " ");
        }
    }

    String text() {
        text = new StringBuilder();
        rows = "";
        procs = "";
        open = 0;
        for (int k = upTo(4); k > 0; k--) {
            declaration();
        }
        int statements = 1 + upTo(8);
        for (int k = 0; k < statements && text.length() < 200; k++) {
            statement(3);
        }
        while (once(8)) {
            mutate();
        }
        if (text.length() > 240) {
            int least = once(4) ? 0 : 100;
            text.setLength(least + upTo(240 - least));
        }
        return text.toString();
    }

    private void declaration() {
        switch (upTo(2)) {
            case 0:
                char fixed = (char) ('a' + upTo(6));
                if (text.indexOf(" " + fixed) >= 0 && !once(20)) {
                    return;
                }
                text.append("var ").append(fixed).append(':');
                label();
                text.append(';');
                break;
            case 1:
                char row = (char) ('p' + rows.length() % 5);
                text.append("row ").append(row).append(':');
                label();
                text.append(';');
                rows += row;
                break;
            default:
                char proc = (char) ('u' + procs.length() % 5);
                text.append("proc ").append(proc);
                block(2);
                procs += proc;
        }
        gap();
    }

    private void block(int depth) {
        text.append('{');
        open++;
        for (int k = upTo(3); k > 0; k--) {
            statement(depth - 1);
        }
        text.append('}');
        open--;
        gap();
    }

    private void statement(int depth) {
        if (text.length() > 230) {
            text.append("a=0;");
            return;
        }
        int what = depth > 0 ? upTo(9) : upTo(5);
        switch (what) {
            case 0:
            case 1:
                text.append(variable());
                gap();
                text.append("=");
                expression(2);
                break;
            case 2:
                if (rows.isEmpty()) {
                    text.append("b=a");
                } else {
                    text.append(rows.charAt(chance.nextInt(rows.length()))).append('[');
                    expression(1);
                    text.append("]=");
                    expression(1);
                }
                break;
            case 3:
                text.append("in ").append(variable()).append(':');
                label();
                break;
            case 4:
                text.append("out ");
                expression(2);
                text.append(':');
                label();
                break;
            case 5:
                text.append("do ").append(procs.isEmpty() || once(40) ? 'z'
                        : procs.charAt(chance.nextInt(procs.length())));
                if (procs.isEmpty() && !once(30)) {
                    text.setLength(text.length() - 4);
                    text.append("c=c+1");
                }
                break;
            case 6:
            case 7:
                text.append("if ");
                expression(1);
                block(depth);
                if (once(2)) {
                    text.append("else");
                    gap();
                    block(depth);
                }
                return;
            default:
                loop(depth);
                return;
        }
        gap();
        text.append(';');
    }

    private void loop(int depth) {
        char v = variable();
        text.append("while ");
        if (once(3)) {
            expression(1);
        } else {
            text.append(v).append('<').append(upTo(7));
        }
        block(depth);
        if (once(2)) {
            text.setLength(text.lastIndexOf("}"));
            text.append(v).append('=').append(v).append("+1;}");
        }
    }

    private void expression(int depth) {
        sum(depth);
        if (once(5)) {
            text.append(once(2) ? '<' : '=');
            sum(depth);
        }
    }

    private void sum(int depth) {
        factor(depth);
        while (once(3)) {
            text.append("+-*/+-*".charAt(upTo(6)));
            gap();
            factor(depth);
        }
    }

    private void factor(int depth) {
        int what = upTo(9);
        if (what < 3 || depth <= 0) {
            text.append(once(20) ? 999999999 : once(15) ? 12 : upTo(7));
        } else if (what < 7) {
            text.append(variable());
        } else if (what < 9 && !rows.isEmpty()) {
            text.append(rows.charAt(chance.nextInt(rows.length()))).append('[');
            expression(depth - 1);
            text.append(']');
        } else {
            text.append('(');
            expression(depth - 1);
            text.append(')');
        }
    }

    private void mutate() {
        if (text.length() == 0) {
            return;
        }
        int at = chance.nextInt(text.length());
        String signs = ";=[]{}()+-*/<: abzvar0123456789!A~";
        char sign = signs.charAt(chance.nextInt(signs.length()));
        switch (upTo(4)) {
            case 0: text.deleteCharAt(at); break;
            case 1: text.insert(at, sign); break;
            case 2: text.setCharAt(at, sign); break;
            case 3: text.insert(at, new String[] {"var ", "row ", "proc ", "else", "((((((((", "1234567890"}[upTo(5)]); break;
            default: text.setLength(at); break;
        }
    }

    /** Pairs of operation and x. */
    int[][] code() {
        int size = 1 + upTo(once(3) ? 63 : 25);
        int[][] made = new int[size][];
        int[] heights = new int[size];
        int height = 0;
        for (int i = 0; i < size; i++) {
            heights[i] = height;
            made[i] = instruction(size, height);
            height = Math.max(0, height - TAKES[made[i][0]] + PUTS[made[i][0]]);
        }
        if (!once(20)) {
            made[size - 1] = once(3) ? new int[] {12, chance.nextInt(size)} : new int[] {15, 0};
        }
        aimAtEmptyStacks(made, heights);
        if (once(12)) {
            int at = chance.nextInt(size);
            made[at] = new int[] {upTo(15), upTo(70) - 3};
        }
        return made;
    }

    /** Where a jump would come upon a stack that is not empty, verifying mostly ends early. */
    private void aimAtEmptyStacks(int[][] made, int[] heights) {
        for (int[] pair : made) {
            boolean jumps = pair[0] == 11 || pair[0] == 12;
            while (jumps && pair[1] > 0 && pair[1] < made.length && heights[pair[1]] != 0 && !once(60)) {
                pair[1]--;
            }
        }
    }

    private static final int[] TAKES = {0, 0, 1, 1, 2, 2, 2, 2, 2, 2, 2, 1, 0, 0, 1, 0};
    private static final int[] PUTS = {1, 1, 0, 1, 0, 1, 1, 1, 1, 1, 1, 0, 0, 1, 0, 0};

    private int[] instruction(int size, int height) {
        int[] operations;
        if (height == 0) {
            operations = new int[] {0, 1, 1, 1, 13, 13, 12, 15, 0};
        } else if (height == 1) {
            operations = new int[] {2, 2, 11, 11, 11, 11, 14, 3, 0, 1};
        } else {
            operations = new int[] {2, 4, 5, 6, 7, 8, 9, 10, 14, 3, 2, 4};
        }
        int operation = operations[chance.nextInt(operations.length)];
        if (once(150)) {
            operation = upTo(15);
        }
        if (operation == 15 && !once(3)) {
            operation = 1;
        }
        return new int[] {operation, argument(operation, size)};
    }

    private int argument(int operation, int size) {
        if (once(800)) {
            return chance.nextInt();
        }
        switch (operation) {
            case 0: return once(10) ? chance.nextInt() : upTo(9);
            case 1:
            case 2: return once(10) ? upTo(25) : upTo(3);
            case 3:
            case 4: return once(10) ? upTo(25) : upTo(2);
            case 13:
            case 14: return chance.nextInt(n);
            case 11:
            case 12: return chance.nextInt(size);
            default: return once(5) ? chance.nextInt() : 0;
        }
    }
}
