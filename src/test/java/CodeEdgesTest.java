/** Promises 10 to 13, sentence by sentence: each boundary case that one names has a test of its own. */
final class CodeEdgesTest {
    private static final Due DUE = new Due();
    private static final int MIN = Integer.MIN_VALUE;
    private static final int MAX = Integer.MAX_VALUE;
    private static final String NO_SUCH = "NoSuchElementException";

    public static void main(String[] args) {
        sizeOfNone();
        sizeFromLeastToMost();
        codeInside();
        codeOutside();
        decodedNoCode();
        decodedNoSuchPlace();
        decodedNoInstruction();
        decodedBeyondTheEnd();
        decodedNoSuchWhat();
        decodedAtNoStart();
        decodedWhereItHasNone();
        decodedStarts();
        decodedStartsOfThisCode();
        decodedEachInstruction();
        decodedOneByteNumbers();
        decodedFourByteNumbers();
        decodedMemory();
        decodedNothingElse();
        placeOfItems();
        placeOfLabels();
        placeHowMany();
        placeNoneSuch();
        DUE.end();
    }

    private static void sizeOfNone() {
        DUE.sentence("10", "0 if there is none");
        House h = new House();
        DUE.is("new", h.size(), 0);
        h.feed(0x90909090, 0x90909090, 0x90909090, 0x90909090, 0);
        h.nops(3);
        DUE.is("TAPE and DRAFT are none", h.size(), 0);
        h.check();
        DUE.is("behind a check with a FAULT", h.size(), 0);
        h.flow(1, 0, 0);
        h.build();
        DUE.is("behind a build with a FAULT", h.size(), 0);
    }

    private static void sizeFromLeastToMost() {
        DUE.sentence("10", "How many BYTES THE CODE has");
        for (int n = 16; n <= 1024; n += 16) {
            House h = new House();
            h.tape(House.filled(n, 144));
            h.check();
            DUE.is("checked", h.size(), n);
        }
        for (int k = 0; k <= 63; k++) {
            House h = new House();
            for (int call = 0; call < k; call++) {
                h.flow(4, 0, 0);
            }
            h.build();
            DUE.is("built", h.size(), 16 * k + 16);
        }
    }

    private static void codeInside() {
        DUE.sentence("11", "BYTE i of THE CODE");
        int[] bytes = House.filled(1024, 144);
        bytes[0] = 64;
        bytes[1023] = 95;
        House h = new House();
        h.tape(bytes);
        h.check();
        DUE.is("the first", h.code(0), 64);
        DUE.is("the last", h.code(1023), 95);
        DUE.is("behind the last", h.code(1024), -1);
        House all = House.holding(184, 255, 128, 127, 0);
        int[] want = {184, 255, 128, 127, 0};
        for (int k = 0; k < want.length; k++) {
            DUE.is("BYTE 0 .. 255, never below 0", all.code(k), want[k]);
        }
    }

    private static void codeOutside() {
        DUE.sentence("11", "NONE if there is none such");
        House none = new House();
        for (int i : new int[] {-1, 0, 1, MIN, MAX}) {
            DUE.is("no CODE: code(" + i + ")", none.code(i), -1);
        }
        House h = House.holding(144);
        for (int i : new int[] {-1, -16, MIN, 16, 17, 256, 1023, 1024, 1099, 1100, MAX}) {
            DUE.is("code(" + i + ")", h.code(i), -1);
        }
        DUE.is("the last one", h.code(15), 244);
    }

    private static void decodedNoCode() {
        DUE.sentence("12", "NoSuchElementException: there is none within THE CODE");
        House none = new House();
        none.feed(0x90909090, 0x90909090, 0x90909090, 0x90909090, 0);
        none.nops(16);
        for (int what = -1; what <= 8; what++) {
            int which = what;
            DUE.refuses("no CODE", NO_SUCH, () -> none.decoded(0, which));
        }
    }

    private static void decodedNoSuchPlace() {
        DUE.sentence("12", "NoSuchElementException: there is none within THE CODE");
        House h = new House();
        h.tape(House.filled(32, 144));
        h.check();
        for (int place : new int[] {-1, -16, MIN, 32, 33, 256, 288, 1024, 1100, MAX}) {
            for (int what : new int[] {0, 1, 7}) {
                DUE.refuses("decoded(" + place + ", " + what + ")", NO_SUCH, () -> h.decoded(place, what));
            }
        }
        DUE.is("the first place", h.decoded(0, 1), 21);
        DUE.is("the last place", h.decoded(31, 1), 21);
        House shorter = new House();
        shorter.tape(House.filled(32, 144));
        shorter.check();
        shorter.tape(House.filled(16, 144));
        shorter.check();
        DUE.refuses("where there was one once", NO_SUCH, () -> shorter.decoded(16, 7));
    }

    private static void decodedNoInstruction() {
        DUE.sentence("12", "NoSuchElementException: there is none within THE CODE");
        House h = House.holding(184, 0, 15, 138, 98);
        for (int what = 0; what <= 7; what++) {
            int which = what;
            DUE.refuses("0 is no INSTRUCTION", NO_SUCH, () -> h.decoded(1, which));
            DUE.refuses("15, 138 is none", NO_SUCH, () -> h.decoded(2, which));
            DUE.refuses("138 is none", NO_SUCH, () -> h.decoded(3, which));
            DUE.refuses("98 is none", NO_SUCH, () -> h.decoded(4, which));
        }
        DUE.is("but here is one", h.decoded(0, 1), 8);
    }

    /** MOV 0 at 11; each BYTE of its I begins an INSTRUCTION that lacks BYTES. */
    private static void decodedBeyondTheEnd() {
        DUE.sentence("12", "NoSuchElementException: there is none within THE CODE");
        int[][] ends = {{184, 144, 144, 144, 144}, {184, 144, 184, 144, 144}, {184, 184, 0, 0, 0}, {184, 144, 129, 192, 0}, {184, 144, 144, 131, 192},
            {184, 144, 144, 15, 175}, {184, 144, 144, 144, 15}, {184, 144, 144, 15, 132}, {184, 144, 144, 144, 139}, {184, 144, 144, 139, 4},
            {184, 144, 144, 139, 64}, {184, 144, 139, 4, 5}, {184, 144, 144, 144, 235}, {184, 144, 144, 144, 116}, {184, 144, 144, 144, 106},
            {184, 144, 144, 193, 224}, {184, 144, 144, 144, 255}, {184, 144, 144, 144, 247}, {184, 232, 0, 0, 0}, {184, 104, 0, 0, 0}};
        int[] at = {-1, 13, 12, 13, 14, 14, 15, 14, 15, 14, 14, 13, 15, 15, 15, 14, 15, 15, 12, 12};
        for (int k = 0; k < ends.length; k++) {
            House h = new House();
            h.tape(House.with(House.filled(16, 144), 11, ends[k]));
            DUE.is("check", h.check(), 0);
            int place = at[k];
            if (place >= 0) {
                for (int what = 0; what <= 7; what++) {
                    int which = what;
                    DUE.refuses("beyond the end, from " + place, NO_SUCH, () -> h.decoded(place, which));
                }
            }
            DUE.is("the START ahead of it", h.decoded(11, 0), 5);
        }
        House more = new House();
        more.tape(House.with(House.filled(32, 144), 11, 184, 144, 184, 144, 144));
        DUE.is("check", more.check(), 0);
        DUE.is("beyond its BUNDLE'S end, but within THE CODE", more.decoded(13, 0), 5);
        DUE.is("it is no START", more.decoded(13, 7), 0);
        DUE.is("just up to the end", House.holding(House.with(House.filled(16, 144), 11, 184, 1, 2, 3, 4)).decoded(11, 6), 0x04030201);
    }

    private static void decodedNoSuchWhat() {
        DUE.sentence("12", "NoSuchElementException: .. no such what");
        House h = House.holding(144);
        for (int what : new int[] {-1, -2, 8, 9, MIN, MAX}) {
            DUE.refuses("what " + what, NO_SUCH, () -> h.decoded(0, what));
            DUE.refuses("what " + what + ", no place", NO_SUCH, () -> h.decoded(16, what));
        }
        for (int what = 0; what <= 7; what++) {
            DUE.is("what " + what, h.decoded(0, what), new int[] {1, 21, 0, 0, 0, 0, 0, 1}[what]);
        }
    }

    private static void decodedAtNoStart() {
        DUE.sentence("12", "Of the INSTRUCTION at a place of THE CODE (a START or not)");
        House h = House.holding(184, 195, 131, 196, 7);
        DUE.is("RET inside of MOV", h.decoded(1, 1), 23);
        DUE.is("its BYTES", h.decoded(1, 0), 1);
        DUE.is("its FORM", h.decoded(1, 2), 0);
        DUE.is("ADD inside of MOV", h.decoded(2, 1), 0);
        DUE.is("its BYTES", h.decoded(2, 0), 3);
        DUE.is("its R", h.decoded(2, 3), 4);
        DUE.is("its I", h.decoded(2, 6), 7);
        DUE.is("no START", h.decoded(2, 7), 0);
        DUE.is("MOV", h.decoded(0, 7), 1);
        DUE.is("HALT behind it", h.decoded(5, 7), 1);
    }

    private static void decodedWhereItHasNone() {
        DUE.sentence("12", "(0 where it has none)");
        int[][] bytes = {{144}, {64 + 7}, {1, 0xC0 + 8 * 7 + 6}, {3, 8 * 7 + 6}, {1, 8 * 7 + 6}, {131, 0xC0 + 7, 5}, {131, 7, 5}, {247, 16 + 7}, {106, 5}, {116, 0}, {15, 175, 0xFF}};
        int[][] want = {{1, 21, 0, 0, 0, 0, 0}, {1, 17, 1, 7, 0, 0, 0}, {2, 0, 2, 6, 7, 0, 0}, {2, 0, 3, 7, 134, 0, 0}, {2, 0, 4, 7, 134, 0, 0},
            {3, 0, 5, 7, 0, 0, 5}, {3, 0, 6, 0, 135, 0, 5}, {2, 12, 7, 0, 135, 0, 0}, {2, 19, 8, 0, 0, 0, 5}, {2, 25, 8, 4, 0, 0, 0}, {3, 11, 2, 7, 7, 0, 0}};
        for (int k = 0; k < bytes.length; k++) {
            // Read behind others each time, so that nothing of those is told.
            House h = House.holding(House.with(House.padded(144, bytes[k]), 7, 71, 199, 68, 255, 1, 2, 3, 4, 5));
            for (int what = 0; what < 7; what++) {
                DUE.is("another one ahead", h.decoded(7, 3), 7);
                DUE.is("another one ahead", h.decoded(8, 6), 0x05040302);
                DUE.is("BYTES " + bytes[k][0] + ", what " + what, h.decoded(0, what), want[k][what]);
            }
        }
    }

    private static void decodedStarts() {
        DUE.sentence("12", "7: 0 it is no START, 1 it is, 2 as the second one of a PAIR");
        House h = House.holding(House.with(House.filled(32, 144), 3, 131, 230, 240, 255, 230, 144, 144, 144, 131, 227, 240, 255, 211, 184, 131, 231, 240, 144, 184, 255, 231, 0, 0));
        DUE.is("ahead of it", h.decoded(2, 7), 1);
        DUE.is("the AND", h.decoded(3, 7), 1);
        DUE.is("the GO", h.decoded(6, 7), 2);
        DUE.is("behind it", h.decoded(8, 7), 1);
        DUE.is("the AND of GOSUB", h.decoded(11, 7), 1);
        DUE.is("the GOSUB", h.decoded(14, 7), 2);
        DUE.is("a BUNDLE'S beginning", h.decoded(16, 7), 1);
        DUE.is("AND at no START", h.decoded(17, 1), 4);
        DUE.is("it is none", h.decoded(17, 7), 0);
        DUE.is("GO at no START", h.decoded(22, 1), 27);
        DUE.is("it is none", h.decoded(22, 7), 0);
        House built = new House();
        built.flow(5, 6, 0);
        built.flow(6, 6, 0);
        built.build();
        DUE.is("AND of a GO that was built", built.decoded(0, 7), 1);
        DUE.is("GO that was built", built.decoded(3, 7), 2);
        DUE.is("GOSUB that was built", built.decoded(14, 7), 2);
        DUE.is("NOP that was built", built.decoded(5, 7), 1);
    }

    /** Each CODE has a MOV where the one ahead had NOPS, or the other way round. */
    private static void decodedStartsOfThisCode() {
        DUE.sentence("12", "7: 0 it is no START, 1 it is");
        int[] nops = House.filled(16, 144);
        int[] mov = House.padded(244, 184, 144, 144, 144, 144);
        House checked = House.holding(nops);
        checked.tape(mov);
        checked.check();
        DUE.is("checked behind a checked one", checked.decoded(1, 7), 0);
        checked.tape(nops);
        checked.check();
        DUE.is("and a START again", checked.decoded(1, 7), 1);
        House built = House.holding(nops);
        built.plain(8, 5, 0, 0, 0, 0x90909090);
        built.build();
        DUE.is("built behind a checked one", built.decoded(1, 7), 0);
        DUE.is("the HALT behind it", built.decoded(5, 7), 1);
        built.clear();
        built.nops(9);
        built.build();
        DUE.is("built behind a built one", built.decoded(1, 7), 1);
        built.tape(mov);
        built.check();
        DUE.is("checked behind a built one", built.decoded(4, 7), 0);
    }

    /** BYTES at this place of two BUNDLES of NOPS, and all that decoded() tells of them. */
    private static void decodes(int place, int[] want, int... bytes) {
        House h = House.holding(House.with(House.filled(32, 144), place, bytes));
        int at = place + bytes.length - want[0];
        for (int what = 0; what < want.length; what++) {
            DUE.is("BYTES from " + bytes[0] + " on, what " + what, h.decoded(at, what), want[what]);
        }
    }

    private static int[] w(int... whats) {
        return whats;
    }

    private static void decodedEachInstruction() {
        DUE.sentence("12", "what 0: how many BYTES, 1: OP, 2: FORM, 3: R, 4: X, 5: D, 6: I (0 where it has none), 7");
        for (int r = 0; r < 8; r++) {
            decodes(0, w(2, 27, 1, r, 0, 0, 0, 2), 131, 224 + r, 240, 255, 224 + r);
            decodes(11, w(2, 28, 1, r, 0, 0, 0, 2), 131, 224 + r, 240, 255, 208 + r);
            for (int op = 17; op <= 20; op++) {
                decodes(3, w(1, op, 1, r, 0, 0, 0, 1), 64 + 8 * (op - 17) + r);
            }
            decodes(3, w(2, 12, 1, r, 0, 0, 0, 1), 247, 208 + r);
            decodes(3, w(2, 13, 1, r, 0, 0, 0, 1), 247, 216 + r);
            decodes(3, w(6, 8, 5, r, 0, 0, -2, 1), 199, 192 + r, 254, 255, 255, 255);
        }
        decodes(3, w(1, 22, 0, 0, 0, 0, 0, 1), 244);
        decodes(3, w(2, 24, 8, 0, 0, 0, -3, 1), 235, 253);
        decodes(3, w(5, 24, 8, 0, 0, 0, -8, 1), 233, 248, 255, 255, 255);
        decodes(11, w(5, 26, 8, 0, 0, 0, -16, 1), 232, 240, 255, 255, 255);
        decodes(3, w(5, 19, 8, 0, 0, 0, 128, 1), 104, 128, 0, 0, 0);
        for (int c = 0; c < 16; c++) {
            if (c != 10 && c != 11) {
                decodes(3, w(2, 25, 8, c, 0, 0, 4, 1), 112 + c, 4);
                decodes(3, w(6, 25, 8, c, 0, 0, 4, 1), 15, 128 + c, 4, 0, 0, 0);
            }
        }
        House ret = House.holding(184, 195, 0, 0, 0);
        int[] want = {1, 23, 0, 0, 0, 0, 0, 0};
        for (int what = 0; what < want.length; what++) {
            DUE.is("RET, what " + what, ret.decoded(1, what), want[what]);
        }
    }

    private static void decodedOneByteNumbers() {
        DUE.sentence("Terms", "I1, D1: one BYTE, as a number -128 .. 127 where nothing else is said");
        int[][] told = {{0, 0}, {1, 1}, {127, 127}, {128, -128}, {129, -127}, {255, -1}};
        for (int[] one : told) {
            DUE.is("I of ADD", House.holding(131, 192, one[0]).decoded(0, 6), one[1]);
            DUE.is("I of CMP, a WORD", House.holding(131, 56, one[0]).decoded(0, 6), one[1]);
            DUE.is("I of PUSH", House.holding(106, one[0]).decoded(0, 6), one[1]);
            DUE.is("D of MOV", House.holding(139, 64, one[0]).decoded(0, 5), one[1]);
            DUE.is("D behind one BYTE more", House.holding(139, 68, 36, one[0]).decoded(0, 5), one[1]);
            DUE.is("I of SHL: 0 .. 255", House.holding(193, 224, one[0]).decoded(0, 6), one[0]);
            DUE.is("I of SHR: 0 .. 255", House.holding(193, 232, one[0]).decoded(0, 6), one[0]);
            DUE.is("I of SAR, a WORD: 0 .. 255", House.holding(193, 56, one[0]).decoded(0, 6), one[0]);
        }
        int[] code = House.with(House.filled(288, 144), 128, 235, 128);
        DUE.is("I of JUMP, far back", House.holding(code).decoded(128, 6), -128);
        DUE.is("I of JUMP, far on", House.holding(House.with(code, 128, 235, 127)).decoded(128, 6), 127);
        DUE.is("I of BRANCH, far back", House.holding(House.with(code, 128, 117, 128)).decoded(128, 6), -128);
        DUE.is("I of BRANCH, far on", House.holding(House.with(code, 128, 117, 127)).decoded(128, 6), 127);
    }

    private static void decodedFourByteNumbers() {
        DUE.sentence("Terms", "I4, D4: four, the lowest first");
        int[] numbers = {0, 1, 255, 256, -1, -256, 0x01020304, 0x80000000, 0x7FFFFFFF, 0xFF000000};
        for (int n : numbers) {
            int[] four = {n & 255, n >> 8 & 255, n >> 16 & 255, n >>> 24};
            DUE.is("I of MOV", House.holding(190, four[0], four[1], four[2], four[3]).decoded(0, 6), n);
            DUE.is("I of ADD", House.holding(129, 192, four[0], four[1], four[2], four[3]).decoded(0, 6), n);
            DUE.is("I of PUSH", House.holding(104, four[0], four[1], four[2], four[3]).decoded(0, 6), n);
            House both = House.holding(199, 128, four[0], four[1], four[2], four[3], 5, 0, 0, 0);
            DUE.is("D of MOV", both.decoded(0, 5), n);
            DUE.is("I behind it", both.decoded(0, 6), 5);
            DUE.is("D without a base", House.holding(139, 5, four[0], four[1], four[2], four[3]).decoded(0, 5), n);
        }
    }

    private static void memory(int x, int d, int... bytes) {
        House h = House.holding(House.with(House.padded(144, 139), 1, bytes));
        String what = "MEMORY " + bytes[0] + (bytes.length > 1 ? ", " + bytes[1] : "");
        DUE.is(what + ": BYTES", h.decoded(0, 0), bytes.length + 1);
        DUE.is(what + ": FORM", h.decoded(0, 2), 3);
        DUE.is(what + ": X", h.decoded(0, 4), x);
        DUE.is(what + ": D", h.decoded(0, 5), d);
    }

    private static void decodedMemory() {
        DUE.sentence("Terms", "m 0: no D (0); m 1: D1; m 2: D4; the base is e, no index");
        for (int e = 0; e < 8; e++) {
            if (e != 4 && e != 5) {
                memory(e + 128, 0, e);
            }
            if (e != 4) {
                memory(e + 128, -2, 64 + e, 254);
                memory(e + 128, 0xFE, 128 + e, 254, 0, 0, 0);
            }
        }
        DUE.sentence("Terms", "and e 5 with m 0: no base, D4");
        memory(8 + 128, 0x04030201, 5, 1, 2, 3, 4);
        DUE.sentence("Terms", "e 4: one more BYTE ahead of D: 64 * K + 8 * J + B");
        for (int k = 0; k < 4; k++) {
            for (int j = 0; j < 8; j++) {
                for (int b = 0; b < 8; b++) {
                    int x = b + (j == 4 ? 128 : 16 * j + 256 * k);
                    int more = 64 * k + 8 * j + b;
                    memory(x, -2, 68, more, 254);
                    memory(x, 1, 132, more, 1, 0, 0, 0);
                    if (b != 5) {
                        memory(x, 0, 4, more);
                    }
                }
            }
        }
        DUE.sentence("Terms", "(J 4: none, whatever K is ..");
        for (int k = 0; k < 4; k++) {
            memory(3 + 128, 0, 4, 64 * k + 8 * 4 + 3);
            memory(8 + 128, 7, 4, 64 * k + 8 * 4 + 5, 7, 0, 0, 0);
        }
        DUE.sentence("Terms", ".. B 5 with m 0: no base, and D4)");
        memory(8 + 16 * 2 + 256 * 3, -1, 4, 192 + 16 + 5, 255, 255, 255, 255);
        memory(5 + 16 * 2 + 256 * 3, -1, 68, 192 + 16 + 5, 255);
    }

    private static boolean isOne(int... bytes) {
        House h = new House();
        h.tape(House.with(House.filled(16, 144), 0, bytes));
        return h.check() != 2 || h.fault(1) != 0;
    }

    private static void decodedNothingElse() {
        DUE.sentence("Terms", "Nothing else is an INSTRUCTION");
        boolean[] leads = new boolean[256];
        for (int g = 0; g < 64; g += 8) {
            leads[g + 1] = leads[g + 3] = true;
        }
        java.util.Arrays.fill(leads, 64, 96, true);
        java.util.Arrays.fill(leads, 112, 128, true);
        java.util.Arrays.fill(leads, 184, 192, true);
        leads[122] = leads[123] = false;
        for (int lead : new int[] {104, 106, 129, 131, 133, 137, 139, 141, 144, 193, 199, 232, 233, 235, 244, 247}) {
            leads[lead] = true;
        }
        for (int lead = 0; lead < 256; lead++) {
            // The next BYTE is one that each of them takes, if one does.
            int next = lead == 193 ? 36 : lead == 247 ? 20 : lead == 199 ? 4 : 0;
            boolean special = lead == 15 || lead == 255;
            DUE.is("first BYTE " + lead, isOne(lead, next, 0, 0), leads[lead] && !special);
        }
        DUE.is("RET is one, though no START", House.holding(184, 195, 0, 0, 0).decoded(1, 1), 23);
        for (int next = 0; next < 256; next++) {
            int k = next >> 3 & 7;
            boolean e = next >= 192;
            boolean branch = next >= 128 && next <= 143 && next != 138 && next != 139;
            DUE.is("15, " + next, isOne(15, next), branch || next == 175);
            DUE.is("141, " + next, isOne(141, next), !e);
            DUE.is("193, " + next, isOne(193, next), k == 4 || k == 5 || k == 7);
            DUE.is("199, " + next, isOne(199, next), k == 0);
            DUE.is("247, " + next, isOne(247, next), k == 2 || k == 3);
            DUE.is("255, " + next, isOne(255, next), e && (k == 2 || k == 4));
            DUE.is("129, " + next, isOne(129, next), true);
            DUE.is("131, " + next, isOne(131, next), true);
            DUE.is("133, " + next, isOne(133, next), true);
        }
    }

    /** ITEMS: NOP, LABEL 39, CALL, MARKED LABEL 0, RETURN, LABEL 1. */
    private static House program() {
        House h = new House();
        h.nops(13);
        h.flow(0, 39, 0);
        h.flow(3, 39, 0);
        h.flow(0, 0, 1);
        h.flow(7, 0, 0);
        h.flow(0, 1, 0);
        h.build();
        return h;
    }

    private static void placeOfItems() {
        DUE.sentence("13", "sort 0: the place of ITEM k");
        House h = program();
        int[] want = {0, 1, 2, 3, 4, 5, 6, 7, 8, 9, 10, 11, 12, 13, 27, 32, 32, 38};
        for (int k = 0; k < want.length; k++) {
            DUE.is("ITEM " + k, h.place(0, k), want[k]);
        }
        House full = new House();
        full.nops(120);
        full.build();
        DUE.is("ITEM 119", full.place(0, 119), 119);
        DUE.is("ITEM 120", full.place(0, 120), -1);
    }

    private static void placeOfLabels() {
        DUE.sentence("13", "1: of LABEL k");
        House h = program();
        DUE.is("LABEL 0", h.place(1, 0), 32);
        DUE.is("LABEL 1", h.place(1, 1), 38);
        DUE.is("LABEL 39", h.place(1, 39), 13);
        House again = program();
        again.clear();
        again.nops(1);
        again.flow(0, 0, 0);
        again.build();
        DUE.is("LABEL 0 of the later one", again.place(1, 0), 1);
        DUE.is("LABEL 39 is no more", again.place(1, 39), -1);
    }

    private static void placeHowMany() {
        DUE.sentence("13", "2: how many ITEMS (k is not looked at)");
        House h = program();
        for (int k : new int[] {0, 1, -1, 40, 120, MIN, MAX}) {
            DUE.is("k " + k, h.place(2, k), 18);
        }
        House empty = new House();
        empty.build();
        DUE.is("none", empty.place(2, 0), 0);
        House full = new House();
        full.nops(120);
        full.build();
        DUE.is("all", full.place(2, 0), 120);
    }

    private static void placeNoneSuch() {
        DUE.sentence("13", "NONE if there is none such");
        House h = program();
        for (int k : new int[] {-1, 18, 19, 119, 120, MIN, MAX}) {
            DUE.is("ITEM " + k, h.place(0, k), -1);
        }
        for (int k : new int[] {-1, 2, 38, 40, 41, MIN, MAX}) {
            DUE.is("LABEL " + k, h.place(1, k), -1);
        }
        for (int sort : new int[] {-1, 3, 4, MIN, MAX}) {
            DUE.is("sort " + sort, h.place(sort, 0), -1);
        }
        House none = new House();
        none.flow(0, 0, 0);
        for (int sort = 0; sort <= 2; sort++) {
            DUE.is("a DRAFT is no PROGRAM", none.place(sort, 0), -1);
        }
        House checked = House.holding(144);
        for (int sort = 0; sort <= 2; sort++) {
            DUE.is("a CODE that was checked is no PROGRAM", checked.place(sort, 0), -1);
        }
    }
}
