/** Promises 6, 7 and 8: plain, flow, clear. */
final class DraftTest {
    private static final Due DUE = new Due();
    private static final int NONE = 8;

    public static void main(String[] args) {
        forms();
        registers();
        memories();
        shifts();
        notLookedAt();
        flows();
        brim();
        clearing();
        DUE.end();
    }

    private static boolean takes(int op, int form, int r, int x, int d, int i) {
        House h = new House();
        int got = h.plain(op, form, r, x, d, i);
        if (got != 1 && got != -1) {
            DUE.is("plain", got, 1);
        }
        DUE.is("plain counts", h.clear(), got == 1 ? 1 : 0);
        return got == 1;
    }

    private static void forms() {
        String[] want = new String[23];
        java.util.Arrays.fill(want, 0, 9, "23456");
        want[9] = "24";
        want[10] = "3";
        want[11] = "23";
        want[12] = want[13] = "17";
        want[14] = want[15] = want[16] = "56";
        want[17] = want[18] = want[20] = "1";
        want[19] = "18";
        want[21] = want[22] = "0";
        for (int op = -1; op <= 29; op++) {
            for (int form = -1; form <= 33; form++) {
                boolean is = op >= 0 && op < 23 && form >= 0 && form < 9 && want[op].indexOf('0' + form) >= 0;
                DUE.is("OP " + op + " FORM " + form, takes(op, form, 0, 0, 0, 0), is);
            }
        }
        DUE.is("OP MIN", takes(Integer.MIN_VALUE, 0, 0, 0, 0, 0), false);
        DUE.is("FORM MAX", takes(0, Integer.MAX_VALUE, 0, 0, 0, 0), false);
    }

    private static void registers() {
        int[][] withR = {{12, 1}, {20, 1}, {0, 2}, {0, 3}, {0, 4}, {0, 5}, {8, 5}, {14, 5}};
        for (int[] one : withR) {
            for (int r = -1; r <= 8; r++) {
                DUE.is("R " + r + " of FORM " + one[1], takes(one[0], one[1], r, 0, 0, 0), r >= 0 && r < 8);
            }
        }
        for (int x = -1; x <= 8; x++) {
            DUE.is("register X " + x, takes(0, 2, 0, x, 0, 0), x >= 0 && x < 8);
        }
        DUE.is("X of FORM 2 is no MEMORY", takes(0, 2, 0, 16, 0, 0), false);
    }

    private static void memories() {
        int[][] withMemory = {{0, 3}, {0, 4}, {0, 6}, {12, 7}, {10, 3}};
        for (int[] one : withMemory) {
            for (int x = -1100; x <= 1100; x++) {
                boolean is = false;
                for (int b = 0; b <= 8; b++) {
                    for (int j = 0; j <= 8; j++) {
                        for (int k = 0; k <= (j == NONE ? 0 : 3); k++) {
                            is |= j != 4 && x == b + 16 * j + 256 * k;
                        }
                    }
                }
                DUE.is("X " + x + " of FORM " + one[1], takes(one[0], one[1], 0, x, -7, 0), is);
            }
            DUE.is("X MAX", takes(one[0], one[1], 0, Integer.MAX_VALUE, 0, 0), false);
            DUE.is("X MIN", takes(one[0], one[1], 0, Integer.MIN_VALUE, 0, 0), false);
        }
    }

    private static void shifts() {
        for (int op = 14; op <= 16; op++) {
            for (int form = 5; form <= 6; form++) {
                DUE.is("I -1", takes(op, form, 0, 0, 0, -1), false);
                DUE.is("I 0", takes(op, form, 0, 0, 0, 0), true);
                DUE.is("I 255", takes(op, form, 0, 0, 0, 255), true);
                DUE.is("I 256", takes(op, form, 0, 0, 0, 256), false);
            }
        }
        DUE.is("I of others", takes(0, 5, 0, 0, 0, Integer.MIN_VALUE), true);
        DUE.is("I of PUSH", takes(19, 8, 0, 0, 0, Integer.MAX_VALUE), true);
    }

    private static void notLookedAt() {
        DUE.is("FORM 0", takes(21, 0, 99, 99, 99, 999), true);
        DUE.is("FORM 1", takes(12, 1, 7, -1, 99, 999), true);
        DUE.is("FORM 2", takes(0, 2, 7, 7, 99, 999), true);
        DUE.is("FORM 3", takes(0, 3, 7, 136, 99, 999), true);
        DUE.is("FORM 5", takes(0, 5, 7, -1, 99, 999), true);
        DUE.is("FORM 6", takes(0, 6, -1, 136, 99, 999), true);
        DUE.is("FORM 7", takes(12, 7, -1, 136, 99, 999), true);
        DUE.is("FORM 8", takes(19, 8, -1, -1, 99, 999), true);
    }

    private static boolean flows(int sort, int a, int b) {
        House h = new House();
        int got = h.flow(sort, a, b);
        if (got != 1 && got != -1) {
            DUE.is("flow", got, 1);
        }
        DUE.is("flow counts", h.clear(), got == 1 ? 1 : 0);
        return got == 1;
    }

    private static void flows() {
        int[] odd = {-1, 99, Integer.MIN_VALUE, Integer.MAX_VALUE};
        for (int a = -2; a <= 42; a++) {
            boolean label = a >= 0 && a <= 39;
            for (int b = -1; b <= 17; b++) {
                String with = " with " + a + ", " + b;
                DUE.is("LABEL" + with, flows(0, a, b), label && (b == 0 || b == 1));
                DUE.is("JUMP" + with, flows(1, a, b), label);
                DUE.is("BRANCH" + with, flows(2, a, b), label && b >= 0 && b <= 15 && b != 10 && b != 11);
                DUE.is("CALL" + with, flows(3, a, b), label);
                DUE.is("SERVICE" + with, flows(4, a, b), a >= 0 && a <= 3);
                DUE.is("GO" + with, flows(5, a, b), a >= 0 && a <= 7 && a != 4);
                DUE.is("GOSUB" + with, flows(6, a, b), a >= 0 && a <= 7 && a != 4);
                DUE.is("RETURN" + with, flows(7, a, b), true);
                DUE.is("ADDRESS" + with, flows(8, a, b), label && b >= 0 && b <= 7);
                DUE.is("sort 9" + with, flows(9, a, b), false);
                DUE.is("sort -1" + with, flows(-1, a, b), false);
            }
        }
        for (int k : odd) {
            DUE.is("RETURN", flows(7, k, k), true);
            DUE.is("JUMP, b not looked at", flows(1, 0, k), true);
            DUE.is("SERVICE, b not looked at", flows(4, 0, k), true);
            DUE.is("sort", flows(k, 0, 0), false);
        }
    }

    private static void brim() {
        House h = new House();
        for (int k = 1; k <= 120; k++) {
            DUE.is("ITEM " + k, k % 2 == 0 ? h.plain(21, 0, 0, 0, 0, 0) : h.flow(7, 0, 0), k);
        }
        DUE.is("plain at the brim", h.plain(21, 0, 0, 0, 0, 0), -1);
        DUE.is("flow at the brim", h.flow(7, 0, 0), -1);
        DUE.is("clear", h.clear(), 120);
        DUE.is("plain again", h.plain(21, 0, 0, 0, 0, 0), 1);
    }

    private static void clearing() {
        House h = new House();
        h.plain(21, 0, 0, 0, 0, 0);
        h.plain(22, 0, 0, 0, 0, 0);
        h.plain(23, 0, 0, 0, 0, 0);
        DUE.is("clear", h.clear(), 2);
        DUE.is("clear again", h.clear(), 0);
        h.flow(0, 0, 0);
        h.build();
        DUE.is("clear leaves the PROGRAM", h.clear(), 1);
        DUE.is("its ITEMS", h.place(2, 0), 1);
        h.flow(0, 0, 1);
        DUE.is("its LABEL is forgotten by the DRAFT", h.build(), 0);
    }
}
