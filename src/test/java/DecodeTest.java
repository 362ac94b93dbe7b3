/** Promise 12: decoded, for each way to tell an INSTRUCTION. */
final class DecodeTest {
    private static final Due DUE = new Due();

    public static void main(String[] args) {
        arithmetic();
        moves();
        shiftsAndSingles();
        flows();
        memory();
        noInstructions();
        starts();
        edges();
        DUE.end();
    }

    /** These BYTES at place 0 are: OP, FORM, R, X, D, I. */
    private static void is(String what, int[] bytes, int op, int form, int r, int x, int... di) {
        House h = House.holding(House.padded(House.NOP, bytes));
        int[] want = {bytes.length, op, form, r, x, di.length > 0 ? di[0] : 0, di.length > 1 ? di[1] : 0};
        for (int k = 0; k < want.length; k++) {
            int part = k;
            int[] got = {Integer.MIN_VALUE + 1};
            try {
                got[0] = h.decoded(0, part);
            } catch (java.util.NoSuchElementException e) {
                System.out.println(what + ": no INSTRUCTION");
            }
            DUE.is(what + ": decoded(0, " + k + ")", got[0], want[k]);
        }
    }

    private static int[] b(int... bytes) {
        return bytes;
    }

    private static void arithmetic() {
        for (int g = 0; g < 8; g++) {
            String op = "OP " + g;
            is(op + " 2", b(1 + 8 * g, 0xC0 + 8 * 3 + 5), g, 2, 5, 3);
            is(op + " 2, the other way", b(3 + 8 * g, 0xC0 + 8 * 3 + 5), g, 2, 3, 5);
            is(op + " 4", b(1 + 8 * g, 8 * 3 + 6), g, 4, 3, 6 + 128);
            is(op + " 3", b(3 + 8 * g, 8 * 3 + 6), g, 3, 3, 6 + 128);
            is(op + " 5, I4", b(129, 0xC0 + 8 * g + 7, 1, 2, 3, 0x84), g, 5, 7, 0, 0, 0x84030201);
            is(op + " 5, I1", b(131, 0xC0 + 8 * g + 7, 0x80), g, 5, 7, 0, 0, -128);
            is(op + " 6, I4", b(129, 8 * g + 7, 1, 2, 3, 4), g, 6, 0, 7 + 128, 0, 0x04030201);
            is(op + " 6, D1, I1", b(131, 64 + 8 * g + 7, 0xFF, 127), g, 6, 0, 7 + 128, -1, 127);
        }
        is("TEST 2", b(133, 0xC0 + 8 * 2 + 1), 9, 2, 1, 2);
        is("TEST 4", b(133, 8 * 2 + 1), 9, 4, 2, 1 + 128);
        is("IMUL 2", b(15, 175, 0xC0 + 8 * 2 + 1), 11, 2, 2, 1);
        is("IMUL 3", b(15, 175, 8 * 2 + 1), 11, 3, 2, 1 + 128);
        is("NOT 1", b(247, 0xC0 + 16 + 3), 12, 1, 3, 0);
        is("NEG 1", b(247, 0xC0 + 24 + 3), 13, 1, 3, 0);
        is("NOT 7", b(247, 16 + 3), 12, 7, 0, 3 + 128);
        is("NEG 7", b(247, 64 + 24 + 3, 5), 13, 7, 0, 3 + 128, 5);
    }

    private static void moves() {
        is("MOV 2", b(137, 0xC0 + 8 * 4 + 6), 8, 2, 6, 4);
        is("MOV 4", b(137, 8 * 4 + 6), 8, 4, 4, 6 + 128);
        is("MOV 2, the other way", b(139, 0xC0 + 8 * 4 + 6), 8, 2, 4, 6);
        is("MOV 3", b(139, 8 * 4 + 6), 8, 3, 4, 6 + 128);
        for (int r = 0; r < 8; r++) {
            is("MOV 5", b(184 + r, 255, 255, 255, 127), 8, 5, r, 0, 0, Integer.MAX_VALUE);
        }
        is("MOV 5 by 199", b(199, 0xC0 + 5, 1, 0, 0, 128), 8, 5, 5, 0, 0, Integer.MIN_VALUE + 1);
        is("MOV 6", b(199, 64 + 5, 9, 1, 0, 0, 0), 8, 6, 0, 5 + 128, 9, 1);
        is("LEA", b(141, 64 + 8 * 2 + 5, 0x81), 10, 3, 2, 5 + 128, -127);
    }

    private static void shiftsAndSingles() {
        int[] k = {4, 5, 7};
        for (int n = 0; n < 3; n++) {
            is("shift 5", b(193, 0xC0 + 8 * k[n] + 2, 255), 14 + n, 5, 2, 0, 0, 255);
            is("shift 6", b(193, 8 * k[n] + 2, 128), 14 + n, 6, 0, 2 + 128, 0, 128);
        }
        for (int r = 0; r < 8; r++) {
            is("INC", b(64 + r), 17, 1, r, 0);
            is("DEC", b(72 + r), 18, 1, r, 0);
            is("PUSH", b(80 + r), 19, 1, r, 0);
            is("POP", b(88 + r), 20, 1, r, 0);
        }
        is("PUSH I1", b(106, 254), 19, 8, 0, 0, 0, -2);
        is("PUSH I4", b(104, 254, 0, 0, 0), 19, 8, 0, 0, 0, 254);
        is("NOP", b(144), 21, 0, 0, 0);
        is("HALT", b(244), 22, 0, 0, 0);
    }

    private static void flows() {
        is("JUMP I1", b(235, 0xFE), 24, 8, 0, 0, 0, -2);
        is("JUMP I4", b(233, 0, 0, 0, 0), 24, 8, 0, 0, 0, 0);
        for (int c = 0; c < 16; c++) {
            if (c != 10 && c != 11) {
                is("BRANCH I1", b(112 + c, 0xFE), 25, 8, c, 0, 0, -2);
                is("BRANCH I4", b(15, 128 + c, 0xFA, 255, 255, 255), 25, 8, c, 0, 0, -6);
            }
        }
        House h = House.holding(House.with(House.filled(32, 144), 11, 232, 1, 0, 0, 0));
        DUE.is("CALL: BYTES", h.decoded(11, 0), 5);
        DUE.is("CALL: OP", h.decoded(11, 1), 26);
        DUE.is("CALL: FORM", h.decoded(11, 2), 8);
        DUE.is("CALL: R", h.decoded(11, 3), 0);
        DUE.is("CALL: X", h.decoded(11, 4), 0);
        DUE.is("CALL: D", h.decoded(11, 5), 0);
        DUE.is("CALL: I", h.decoded(11, 6), 1);
        House pairs = House.holding(House.with(House.filled(16, 144), 1, 131, 230, 240, 255, 230, 144, 144, 144, 144, 144, 131, 226, 240, 255, 210));
        int[][] want = {{4, 27, 6}, {14, 28, 2}};
        for (int[] one : want) {
            DUE.is("PAIR: BYTES", pairs.decoded(one[0], 0), 2);
            DUE.is("PAIR: OP", pairs.decoded(one[0], 1), one[1]);
            DUE.is("PAIR: FORM", pairs.decoded(one[0], 2), 1);
            DUE.is("PAIR: R", pairs.decoded(one[0], 3), one[2]);
            DUE.is("PAIR: second", pairs.decoded(one[0], 7), 2);
        }
        DUE.is("PAIR: first", pairs.decoded(1, 7), 1);
    }

    private static void memory() {
        int none = 8;
        for (int e = 0; e < 8; e++) {
            if (e != 4 && e != 5) {
                is("m 0", b(139, e), 8, 3, 0, e + 128, 0);
            }
            if (e != 4) {
                is("m 1", b(139, 64 + e, 0x80), 8, 3, 0, e + 128, -128);
                is("m 2", b(139, 128 + e, 0xFF, 0xFF, 0xFF, 0x7F), 8, 3, 0, e + 128, Integer.MAX_VALUE);
            }
        }
        is("no base", b(139, 5, 4, 3, 2, 1), 8, 3, 0, none + 128, 0x01020304);
        for (int scale = 0; scale < 4; scale++) {
            for (int index = 0; index < 8; index++) {
                int x = index == 4 ? 16 * none : 16 * index + 256 * scale;
                int told = 64 * scale + 8 * index;
                is("e 4, m 0", b(139, 4, told + 3), 8, 3, 0, x + 3, 0);
                is("e 4, m 0, B 4", b(139, 4, told + 4), 8, 3, 0, x + 4, 0);
                is("e 4, m 0, B 5", b(139, 4, told + 5, 255, 255, 255, 255), 8, 3, 0, x + none, -1);
                is("e 4, m 1, B 5", b(139, 68, told + 5, 255), 8, 3, 0, x + 5, -1);
                is("e 4, m 2, B 5", b(139, 132, told + 5, 255, 0, 0, 0), 8, 3, 0, x + 5, 255);
            }
        }
        is("the longest", b(129, 128 + 8 * 7 + 4, 0xFF, 1, 0, 0, 0, 2, 0, 0, 0), 7, 6, 0, 7 + 16 * 7 + 256 * 3, 1, 2);
    }

    /** No INSTRUCTION begins with these: FAULT 2 at 0, though enough BYTES are behind them. */
    private static void noInstructions() {
        boolean[] begins = new boolean[256];
        for (int g = 0; g < 8; g++) {
            begins[1 + 8 * g] = true;
            begins[3 + 8 * g] = true;
        }
        for (int k = 64; k < 96; k++) {
            begins[k] = true;
        }
        for (int c = 112; c < 128; c++) {
            begins[c] = c != 122 && c != 123;
        }
        for (int k = 184; k < 192; k++) {
            begins[k] = true;
        }
        for (int k : b(104, 106, 129, 131, 133, 137, 139, 141, 144, 193, 199, 232, 233, 235, 244, 247, 255)) {
            begins[k] = true;
        }
        for (int lead = 0; lead < 256; lead++) {
            boolean found = false;
            for (int second = 0; second < 256; second++) {
                found |= !isNone(lead, second);
            }
            DUE.is("an INSTRUCTION with " + lead, found, begins[lead] || lead == 15);
        }
        for (int second = 0; second < 256; second++) {
            boolean branch = second >= 128 && second < 144 && second != 138 && second != 139;
            DUE.is("15, " + second, !isNone(15, second), branch || second == 175);
            int k = second >> 3 & 7;
            boolean register = second >= 192;
            DUE.is("141, " + second, !isNone(141, second), !register);
            DUE.is("193, " + second, !isNone(193, second), k == 4 || k == 5 || k == 7);
            DUE.is("199, " + second, !isNone(199, second), k == 0);
            DUE.is("247, " + second, !isNone(247, second), k == 2 || k == 3);
            DUE.is("255, " + second, !isNone(255, second), register && (k == 2 || k == 4));
        }
    }

    private static boolean isNone(int lead, int second) {
        House h = new House();
        h.tape(House.padded(0, lead, second));
        return h.check() == 2 && h.fault(1) == 0;
    }

    private static void starts() {
        House h = House.holding(184, 195, 137, 192, 244, 144);
        DUE.is("a START", h.decoded(0, 7), 1);
        DUE.is("no START", h.decoded(1, 7), 0);
        DUE.is("RET at no START", h.decoded(1, 1), 23);
        DUE.is("FORM of RET", h.decoded(1, 2), 0);
        DUE.is("BYTES of RET", h.decoded(1, 0), 1);
        for (int what = 2; what <= 7; what++) {
            DUE.is("RET: " + what, h.decoded(1, what), 0);
        }
        DUE.is("MOV at no START", h.decoded(2, 1), 8);
        DUE.is("MOV at no START: 7", h.decoded(2, 7), 0);
        DUE.is("the next START", h.decoded(5, 7), 1);
        House over = House.holding(House.with(House.filled(32, 144), 11, 184, 184, 184, 184, 184));
        DUE.is("over a BUNDLE'S end, at no START", over.decoded(15, 0), 5);
        DUE.is("its I", over.decoded(15, 6), 0x90909090);
        House hidden = House.holding(184, 131, 224, 240, 144, 184, 255, 224, 0, 0);
        DUE.is("GO at no START", hidden.decoded(6, 1), 27);
        DUE.is("GO at no START: 7", hidden.decoded(6, 7), 0);
    }

    private static void edges() {
        House h = House.holding(House.with(House.filled(16, 144), 11, 184, 0, 0, 0, 184));
        DUE.refuses("what -1", "NoSuchElementException", () -> h.decoded(0, -1));
        DUE.refuses("what 8", "NoSuchElementException", () -> h.decoded(0, 8));
        DUE.refuses("place -1", "NoSuchElementException", () -> h.decoded(-1, 0));
        DUE.refuses("place 16", "NoSuchElementException", () -> h.decoded(16, 0));
        DUE.refuses("place MAX", "NoSuchElementException", () -> h.decoded(Integer.MAX_VALUE, 0));
        DUE.refuses("place MIN", "NoSuchElementException", () -> h.decoded(Integer.MIN_VALUE, 0));
        DUE.refuses("no INSTRUCTION", "NoSuchElementException", () -> h.decoded(12, 0));
        DUE.refuses("beyond the end", "NoSuchElementException", () -> h.decoded(15, 0));
        DUE.is("the last place", House.holding(144).decoded(15, 1), 22);
    }
}
