/** Promises 9, 10, 11 and 13: build, size, code, place. */
final class BuildTest {
    private static final Due DUE = new Due();
    private static final int NO = 8;

    public static void main(String[] args) {
        faults();
        tooBig();
        bytesOfInstructions();
        bytesOfMemory();
        bytesOfFlow();
        laying();
        labels();
        longOnes();
        longByLong();
        laterDraft();
        keptByFault();
        places();
        DUE.end();
    }

    private static void faults() {
        fault("an empty DRAFT", 0, -1, new int[][] {});
        fault("told already", 1, 1, new int[][] {{0, 3, 0}, {0, 3, 1}});
        fault("told nowhere, JUMP", 2, 0, new int[][] {{1, 3, 0}, {0, 4, 0}});
        fault("told nowhere, BRANCH", 2, 1, new int[][] {{7, 0, 0}, {2, 3, 4}});
        fault("told nowhere, CALL", 2, 0, new int[][] {{3, 39, 0}});
        fault("told nowhere, ADDRESS", 2, 0, new int[][] {{8, 39, 0}});
        fault("not MARKED", 3, 0, new int[][] {{8, 5, 0}, {0, 5, 0}});
        fault("MARKED", 0, -1, new int[][] {{8, 5, 0}, {0, 5, 1}});
        fault("the first ITEM: 2 ahead of a later 1", 2, 1, new int[][] {{0, 3, 0}, {1, 4, 0}, {0, 3, 0}});
        fault("the first ITEM: 3 ahead of a later 1", 3, 2, new int[][] {{0, 3, 0}, {0, 4, 0}, {8, 4, 0}, {0, 3, 1}});
        fault("the first ITEM: 1 ahead of a later 2", 1, 1, new int[][] {{0, 3, 0}, {0, 3, 0}, {1, 4, 0}});
        fault("told later", 0, -1, new int[][] {{1, 4, 0}, {2, 4, 0}, {3, 4, 0}, {0, 4, 0}});
        fault("a SERVICE names no LABEL", 0, -1, new int[][] {{4, 3, 0}, {5, 3, 0}, {6, 3, 0}});
    }

    private static House drafting(int[][] flows) {
        House h = new House();
        for (int[] one : flows) {
            h.flow(one[0], one[1], one[2]);
        }
        return h;
    }

    private static void fault(String what, int want, int item, int[][] flows) {
        House h = drafting(flows);
        DUE.is(what + ": build", h.build(), want);
        DUE.is(what + ": fault(0)", h.fault(0), want);
        DUE.is(what + ": fault(1)", h.fault(1), item);
        DUE.is(what + ": there is CODE", h.size() > 0, want == 0);
        DUE.is(what + ": there is a PROGRAM", h.place(2, 9), want == 0 ? flows.length : -1);
    }

    private static void tooBig() {
        House h = new House();
        for (int k = 0; k < 63; k++) {
            h.flow(4, 1, 0);
        }
        DUE.is("1024", h.build(), 0);
        DUE.is("size", h.size(), 1024);
        for (int k = 0; k < 15; k++) {
            h.plain(21, 0, 0, 0, 0, 0);
        }
        DUE.is("1024 with a full BUNDLE", h.build(), 0);
        h.plain(21, 0, 0, 0, 0, 0);
        DUE.is("1040", h.build(), 4);
        DUE.is("fault(0)", h.fault(0), 4);
        DUE.is("fault(1)", h.fault(1), -1);
        DUE.is("what was stays", h.place(2, 0), 78);
        for (int k = 79; k < 119; k++) {
            h.flow(4, 1, 0);
        }
        h.flow(1, 0, 0);
        DUE.is("another FAULT is ahead", h.build(), 2);
        DUE.is("at the last", h.fault(1), 119);
    }

    private static House building(int op, int form, int r, int x, int d, int i) {
        House h = new House();
        h.plain(op, form, r, x, d, i);
        DUE.is("build", h.build(), 0);
        return h;
    }

    /** This one INSTRUCTION is built to these BYTES, HALTS behind them. */
    private static void makes(int[] bytes, int op, int form, int r, int x, int d, int i) {
        House h = building(op, form, r, x, d, i);
        holds("OP " + op + " FORM " + form, h, House.padded(House.HALT, bytes));
    }

    private static void holds(String what, House h, int[] bytes) {
        DUE.is(what + ": size", h.size(), bytes.length);
        for (int k = 0; k < bytes.length; k++) {
            DUE.is(what + ": BYTE " + k, h.code(k), bytes[k]);
        }
        DUE.is(what + ": behind all", h.code(bytes.length), -1);
    }

    private static int[] b(int... bytes) {
        return bytes;
    }

    private static void bytesOfInstructions() {
        int base = 3 + 16 * NO;
        for (int g = 0; g < 8; g++) {
            makes(b(1 + 8 * g, 0xC0 + 8 * 2 + 6), g, 2, 6, 2, 0, 0);
            makes(b(3 + 8 * g, 8 * 6 + 3), g, 3, 6, base, 0, 0);
            makes(b(1 + 8 * g, 8 * 6 + 3), g, 4, 6, base, 0, 0);
            makes(b(131, 0xC0 + 8 * g + 6, 127), g, 5, 6, 0, 0, 127);
            makes(b(131, 0xC0 + 8 * g + 6, 128), g, 5, 6, 0, 0, -128);
            makes(b(129, 0xC0 + 8 * g + 6, 128, 0, 0, 0), g, 5, 6, 0, 0, 128);
            makes(b(129, 0xC0 + 8 * g + 6, 127, 255, 255, 255), g, 5, 6, 0, 0, -129);
            makes(b(131, 8 * g + 3, 127), g, 6, 0, base, 0, 127);
            makes(b(129, 8 * g + 3, 0, 0, 0, 128), g, 6, 0, base, 0, Integer.MIN_VALUE);
        }
        makes(b(137, 0xC0 + 8 * 2 + 6), 8, 2, 6, 2, 0, 0);
        makes(b(139, 8 * 6 + 3), 8, 3, 6, base, 0, 0);
        makes(b(137, 8 * 6 + 3), 8, 4, 6, base, 0, 0);
        makes(b(190, 1, 0, 0, 0), 8, 5, 6, 0, 0, 1);
        makes(b(199, 3, 1, 0, 0, 0), 8, 6, 0, base, 0, 1);
        makes(b(133, 0xC0 + 8 * 2 + 6), 9, 2, 6, 2, 0, 0);
        makes(b(133, 8 * 6 + 3), 9, 4, 6, base, 0, 0);
        makes(b(141, 8 * 6 + 3), 10, 3, 6, base, 0, 0);
        makes(b(15, 175, 0xC0 + 8 * 6 + 2), 11, 2, 6, 2, 0, 0);
        makes(b(15, 175, 8 * 6 + 3), 11, 3, 6, base, 0, 0);
        makes(b(247, 0xC0 + 16 + 6), 12, 1, 6, 0, 0, 0);
        makes(b(247, 0xC0 + 24 + 6), 13, 1, 6, 0, 0, 0);
        makes(b(247, 16 + 3), 12, 7, 0, base, 0, 0);
        makes(b(247, 24 + 3), 13, 7, 0, base, 0, 0);
        int[] k = {4, 5, 7};
        for (int n = 0; n < 3; n++) {
            makes(b(193, 0xC0 + 8 * k[n] + 6, 255), 14 + n, 5, 6, 0, 0, 255);
            makes(b(193, 8 * k[n] + 3, 128), 14 + n, 6, 0, base, 0, 128);
        }
        makes(b(70), 17, 1, 6, 0, 0, 0);
        makes(b(78), 18, 1, 6, 0, 0, 0);
        makes(b(86), 19, 1, 6, 0, 0, 0);
        makes(b(94), 20, 1, 6, 0, 0, 0);
        makes(b(106, 128), 19, 8, 0, 0, 0, -128);
        makes(b(106, 127), 19, 8, 0, 0, 0, 127);
        makes(b(104, 128, 0, 0, 0), 19, 8, 0, 0, 0, 128);
        makes(b(144), 21, 0, 0, 0, 0, 0);
        makes(b(244), 22, 0, 0, 0, 0, 0);
    }

    private static void loads(int[] operand, int x, int d) {
        int[] bytes = new int[operand.length + 1];
        bytes[0] = 141;
        System.arraycopy(operand, 0, bytes, 1, operand.length);
        makes(bytes, 10, 3, 0, x, d, 0);
    }

    private static void bytesOfMemory() {
        int none = 16 * NO;
        loads(b(5, 0, 0, 0, 0), NO + none, 0);
        loads(b(5, 1, 0, 0, 0), NO + none, 1);
        loads(b(5, 0, 1, 0, 0), NO + none, 256);
        loads(b(7), 7 + none, 0);
        loads(b(64 + 7, 1), 7 + none, 1);
        loads(b(64 + 7, 127), 7 + none, 127);
        loads(b(64 + 7, 128), 7 + none, -128);
        loads(b(128 + 7, 128, 0, 0, 0), 7 + none, 128);
        loads(b(128 + 7, 127, 255, 255, 255), 7 + none, -129);
        loads(b(64 + 5, 0), 5 + none, 0);
        loads(b(64 + 5, 255), 5 + none, -1);
        loads(b(4, 8 * 4 + 4), 4 + none, 0);
        loads(b(64 + 4, 8 * 4 + 4, 8), 4 + none, 8);
        loads(b(128 + 4, 8 * 4 + 4, 0, 2, 0, 0), 4 + none, 512);
        loads(b(4, 64 * 2 + 8 * 1 + 7), 7 + 16 * 1 + 256 * 2, 0);
        loads(b(4, 64 * 3 + 8 * 5 + 4), 4 + 16 * 5 + 256 * 3, 0);
        loads(b(64 + 4, 8 * 1 + 5, 0), 5 + 16 * 1, 0);
        loads(b(64 + 4, 8 * 1 + 7, 255), 7 + 16 * 1, -1);
        loads(b(128 + 4, 8 * 1 + 5, 255, 0, 0, 0), 5 + 16 * 1, 255);
        loads(b(4, 64 + 8 * 5 + 5, 0, 0, 0, 0), NO + 16 * 5 + 256, 0);
        loads(b(4, 64 + 8 * 5 + 5, 1, 0, 0, 0), NO + 16 * 5 + 256, 1);
        makes(b(129, 128 + 8 * 7 + 4, 0xFF, 200, 0, 0, 0, 144, 1, 0, 0), 7, 6, 0, 7 + 16 * 7 + 256 * 3, 200, 400);
    }

    private static void bytesOfFlow() {
        int[] filling = House.filled(16, 144);
        flowMakes("CALL", House.with(House.padded(244, House.filled(17, 244)), 0, House.with(filling, 11, 232, 0, 0, 0, 0)),
            new int[][] {{3, 0, 0}, {0, 0, 0}});
        for (int a = 0; a < 4; a++) {
            int i = 16 * a - 272;
            flowMakes("SERVICE", House.with(House.filled(32, 244), 0, House.with(filling, 11, 232, i & 255, i >> 8 & 255, 255, 255)),
                new int[][] {{4, a, 0}});
        }
        for (int r = 0; r < 8; r++) {
            if (r != 4) {
                flowMakes("GO", House.padded(244, 131, 224 + r, 240, 255, 224 + r), new int[][] {{5, r, 0}});
                flowMakes("GOSUB", House.with(House.filled(32, 244), 0, House.with(filling, 11, 131, 224 + r, 240, 255, 208 + r)),
                    new int[][] {{6, r, 0}});
            }
            flowMakes("ADDRESS", House.with(House.with(House.filled(32, 244), 0, filling), 0, 184 + r, 16, 1, 0, 0),
                new int[][] {{8, 0, r}, {0, 0, 1}});
        }
        flowMakes("RETURN", House.padded(244, 89, 131, 225, 240, 255, 225), new int[][] {{7, 0, 0}});
        flowMakes("JUMP", House.padded(244, 235, 254), new int[][] {{0, 9, 0}, {1, 9, 0}});
        for (int c = 0; c < 16; c++) {
            if (c != 10 && c != 11) {
                flowMakes("BRANCH", House.padded(244, 112 + c, 0), new int[][] {{2, 9, c}, {0, 9, 0}});
            }
        }
        flowMakes("nothing", House.filled(16, 244), new int[][] {});
    }

    private static void flowMakes(String what, int[] bytes, int[][] flows) {
        House h = drafting(flows);
        DUE.is(what + ": build", h.build(), 0);
        holds(what, h, bytes);
    }

    private static void nops(House h, int n) {
        for (int k = 0; k < n; k++) {
            h.plain(21, 0, 0, 0, 0, 0);
        }
    }

    private static void laying() {
        for (int ahead = 0; ahead <= 16; ahead++) {
            placedBehind("MOV", ahead, ahead > 11 ? 16 : ahead, new int[] {8, 5}, null);
            placedBehind("JUMP", ahead, ahead > 14 ? 16 : ahead, null, new int[] {1, 0, 0});
            placedBehind("CALL", ahead, ahead > 11 ? 27 : 11, null, new int[] {3, 0, 0});
            placedBehind("SERVICE", ahead, ahead > 11 ? 27 : 11, null, new int[] {4, 0, 0});
            placedBehind("GO", ahead, ahead > 11 ? 16 : ahead, null, new int[] {5, 0, 0});
            placedBehind("GOSUB", ahead, ahead > 11 ? 27 : 11, null, new int[] {6, 0, 0});
            placedBehind("ADDRESS", ahead, ahead > 11 ? 16 : ahead, null, new int[] {8, 1, 0});
            placedBehind("RETURN", ahead, ahead, null, new int[] {7, 0, 0});
            placedBehind("LABEL", ahead, ahead, null, new int[] {0, 2, 0});
            placedBehind("MARKED LABEL", ahead, ahead == 0 ? 0 : 16, null, new int[] {0, 2, 1});
            returnBehind(ahead);
        }
    }

    private static void placedBehind(String what, int ahead, int want, int[] plain, int[] flow) {
        House h = new House();
        nops(h, ahead);
        if (plain != null) {
            h.plain(plain[0], plain[1], 0, 0, 0, 0);
        } else {
            h.flow(flow[0], flow[1], flow[2]);
        }
        h.flow(0, 0, 0);
        h.flow(0, 1, 1);
        DUE.is("build", h.build(), 0);
        DUE.is(what + " behind " + ahead, h.place(0, ahead), want);
        for (int k = ahead; k < want; k++) {
            DUE.is("NOPS ahead of " + what, h.code(k), 144);
        }
    }

    /** The POP and the PAIR of a RETURN are pieces of their own. */
    private static void returnBehind(int ahead) {
        House h = new House();
        nops(h, ahead);
        h.flow(7, 0, 0);
        DUE.is("build", h.build(), 0);
        int pair = ahead + 1 > 11 && ahead + 1 < 16 ? 16 : ahead + 1;
        DUE.is("POP 1 behind " + ahead, h.code(ahead), 89);
        DUE.is("its PAIR behind " + ahead, h.code(pair), 131);
        DUE.is("the GO", h.decoded(pair + 3, 1), 27);
        DUE.is("the GO is of a PAIR", h.decoded(pair + 3, 7), 2);
        DUE.is("HALT behind it", h.code(pair + 5), pair == 11 ? 244 : h.code(pair + 5));
        DUE.is("size behind " + ahead, h.size(), (pair + 5) / 16 * 16 + 16);
    }

    private static void labels() {
        House h = new House();
        nops(h, 13);
        h.flow(0, 0, 0);
        h.plain(8, 5, 0, 0, 0, 0);
        h.flow(0, 1, 0);
        h.flow(0, 2, 1);
        h.flow(0, 3, 0);
        h.flow(0, 4, 1);
        h.flow(1, 0, 0);
        DUE.is("build", h.build(), 0);
        DUE.is("at the NOP ahead of what doesn't fit", h.place(1, 0), 13);
        DUE.is("the MOV", h.place(0, 14), 16);
        DUE.is("ahead of a MARKED one", h.place(1, 1), 21);
        DUE.is("MARKED", h.place(1, 2), 32);
        DUE.is("behind it", h.place(1, 3), 32);
        DUE.is("MARKED, nothing laid there yet", h.place(1, 4), 32);
        DUE.is("the JUMP'S I", h.decoded(32, 6), 13 - 34);
        DUE.is("HALT", h.code(34), 244);
        House full = new House();
        nops(full, 16);
        full.flow(0, 0, 0);
        DUE.is("build", full.build(), 0);
        DUE.is("behind a full BUNDLE", full.place(1, 0), 16);
        DUE.is("a BUNDLE of HALTS", full.size(), 32);
        House marked = new House();
        nops(marked, 3);
        marked.flow(0, 7, 1);
        DUE.is("build", marked.build(), 0);
        DUE.is("a MARKED one at the end", marked.place(1, 7), 16);
        DUE.is("NOPS up to it", marked.code(15), 144);
        DUE.is("HALT there", marked.code(16), 244);
        DUE.is("size", marked.size(), 32);
    }

    /** A JUMP at 0 over n NOPS, and one back. */
    private static House jumpsOver(int sort, int n, boolean back) {
        House h = new House();
        if (back) {
            h.flow(0, 0, 0);
            nops(h, n);
            h.flow(sort, 0, 4);
        } else {
            h.flow(sort, 0, 4);
            nops(h, n);
            h.flow(0, 0, 0);
        }
        DUE.is("build", h.build(), 0);
        return h;
    }

    private static void longOnes() {
        House far = jumpsOver(1, 110, false);
        DUE.is("over 110: SHORT", far.decoded(0, 0), 2);
        House back = new House();
        back.flow(0, 0, 0);
        for (int k = 0; k < 31; k++) {
            back.plain(8, 6, 0, 3 + 16 * NO, 0, 0);
        }
        back.flow(1, 0, 0);
        back.flow(2, 0, 4);
        DUE.is("build", back.build(), 0);
        DUE.is("far back: LONG", back.decoded(back.place(0, 32), 0), 5);
        DUE.is("its I", back.decoded(back.place(0, 32), 6), -back.place(0, 32) - 5);
        DUE.is("BRANCH far back: LONG", back.decoded(back.place(0, 33), 0), 6);
        DUE.is("its I", back.decoded(back.place(0, 33), 6), -back.place(0, 33) - 6);
        DUE.is("its c", back.decoded(back.place(0, 33), 3), 4);
        for (int sort = 1; sort <= 2; sort++) {
            edge(sort);
        }
    }

    /** 127 on and 128 back are SHORT still, one more is LONG. */
    private static void edge(int sort) {
        int[] lengths = {0, 0};
        for (int more = 0; more < 2; more++) {
            House h = new House();
            h.flow(sort, 0, 4);
            for (int k = 0; k < 14; k++) {
                h.plain(21, 0, 0, 0, 0, 0);
            }
            sixteens(h, 7);
            nops(h, 1 + more);
            h.flow(0, 0, 0);
            DUE.is("build", h.build(), 0);
            lengths[more] = h.decoded(0, 0);
            DUE.is("I on", h.decoded(0, 6), more == 0 ? 127 : h.place(1, 0) - lengths[1]);
            House back = new House();
            nops(back, 2 - more);
            back.flow(0, 0, 0);
            nops(back, 14 + more);
            sixteens(back, 7);
            back.flow(sort, 0, 4);
            DUE.is("build", back.build(), 0);
            int at = back.place(0, 17 + 14);
            DUE.is("at", at, 128);
            int length = back.decoded(at, 0);
            DUE.is("length back", length, more == 0 ? 2 : sort == 1 ? 5 : 6);
            DUE.is("I back", back.decoded(at, 6), back.place(1, 0) - at - length);
        }
        DUE.is("127", lengths[0], 2);
        DUE.is("128", lengths[1], sort == 1 ? 5 : 6);
    }

    /** n BUNDLES of sixteen BYTES, in two INSTRUCTIONS each. */
    private static void sixteens(House h, int n) {
        for (int k = 0; k < n; k++) {
            h.plain(7, 6, 0, 7 + 16 * 7, 200, 400);
            h.plain(8, 5, 0, 0, 0, 0);
        }
    }

    /** The first JUMP is in reach only as long as the second one is SHORT. */
    private static void longByLong() {
        House h = new House();
        h.flow(1, 0, 0);
        h.flow(1, 1, 0);
        nops(h, 12);
        sixteens(h, 7);
        h.flow(0, 0, 0);
        sixteens(h, 1);
        h.flow(0, 1, 0);
        DUE.is("build", h.build(), 0);
        DUE.is("the second one is LONG", h.decoded(h.place(0, 1), 0), 5);
        DUE.is("the first one is LONG by it", h.decoded(0, 0), 5);
        DUE.is("where the second one is", h.place(0, 1), 5);
        DUE.is("I of the first one", h.decoded(0, 6), h.place(1, 0) - 5);
        DUE.is("I of the second one", h.decoded(5, 6), h.place(1, 1) - 10);
    }

    private static void laterDraft() {
        House h = new House();
        h.flow(0, 1, 0);
        h.plain(21, 0, 0, 0, 0, 0);
        DUE.is("build", h.build(), 0);
        h.flow(0, 2, 0);
        h.plain(17, 1, 0, 0, 0, 0);
        DUE.is("ITEMS", h.place(2, 0), 2);
        DUE.is("LABEL of the later DRAFT", h.place(1, 2), -1);
        DUE.is("BYTE", h.code(1), 244);
        h.walk(9);
        DUE.is("WALK of the old one", h.state(true, 13), 2);
        h.clear();
        DUE.is("ITEMS behind clear", h.place(2, 0), 2);
        DUE.is("fault(0) stays", h.fault(0), 0);
        h.plain(22, 0, 0, 0, 0, 0);
        DUE.is("build anew", h.build(), 0);
        DUE.is("LABEL of the old one", h.place(1, 1), -1);
        DUE.refuses("the old WALK", "NoSuchElementException", () -> h.state(true, 13));
        h.walk(9);
        h.run(9);
        h.plain(21, 0, 0, 0, 0, 0);
        DUE.is("build another one", h.build(), 0);
        DUE.refuses("it is another CODE: WALK", "NoSuchElementException", () -> h.state(true, 13));
        DUE.refuses("it is another CODE: RUN", "NoSuchElementException", () -> h.state(false, 13));
        DUE.is("it is another CODE: DATA", h.data(false, 0), -1);
    }

    private static void keptByFault() {
        House h = new House();
        h.flow(0, 1, 0);
        h.plain(17, 1, 3, 0, 0, 0);
        h.build();
        h.run(9);
        h.walk(9);
        h.clear();
        h.flow(0, 2, 0);
        h.flow(0, 2, 0);
        DUE.is("a FAULT", h.build(), 1);
        DUE.is("CODE stays", h.code(0), 67);
        DUE.is("LABEL stays", h.place(1, 1), 0);
        DUE.is("no LABEL of the DRAFT", h.place(1, 2), -1);
        DUE.is("RUN stays", h.state(false, 3), 1);
        DUE.is("WALK stays", h.state(true, 3), 1);
        DUE.is("and can be done again", h.walk(1), 0);
        h.clear();
        DUE.is("clear leaves the FAULT", h.fault(0), 1);
        DUE.is("and its ITEM", h.fault(1), 1);
    }

    private static void places() {
        House h = new House();
        h.flow(0, 39, 1);
        h.plain(21, 0, 0, 0, 0, 0);
        h.flow(0, 0, 0);
        h.flow(4, 1, 0);
        DUE.is("build", h.build(), 0);
        int[][] want = {{0, 0, 0}, {0, 1, 0}, {0, 2, 1}, {0, 3, 11}, {0, 4, -1}, {0, -1, -1}, {0, 119, -1}, {0, Integer.MAX_VALUE, -1},
            {1, 39, 0}, {1, 0, 1}, {1, 1, -1}, {1, 40, -1}, {1, -1, -1}, {1, Integer.MIN_VALUE, -1},
            {2, 0, 4}, {2, -7, 4}, {3, 0, -1}, {-1, 0, -1}};
        for (int[] one : want) {
            DUE.is("place(" + one[0] + ", " + one[1] + ")", h.place(one[0], one[1]), one[2]);
        }
    }
}
