/** What the INSTRUCTIONS do, sentence by sentence, in a RUN and in a WALK: each boundary case has a test of its own. */
final class InstructionEdgesTest {
    private static final Due DUE = new Due();
    private static final int MIN = Integer.MIN_VALUE;
    private static final int MAX = Integer.MAX_VALUE;
    private static final int DIRECT = 136;
    private static final int NO = 8;

    public static void main(String[] args) {
        registersWrap();
        addressesWrap();
        indexIsShifted();
        wordsLowestFirst();
        wordsMayOverlap();
        leftAndRight();
        leftStays();
        leaHasNoAccess();
        carryIn();
        shiftsByFiveBits();
        shiftedOut();
        shiftsByZero();
        pushAsItWas();
        pushEdges();
        popIntoTheStacks();
        popEdges();
        targets();
        targetsOfServices();
        calls();
        gosubAsItWas();
        goMasks();
        carryOfSums();
        carryOfDifferences();
        overflowOfNegative();
        products();
        incrementKeepsCarry();
        logicSwitchesOff();
        othersChangeNone();
        conditions();
        DUE.end();
    }

    /** One INSTRUCTION; RUN and WALK are done and must agree, as nothing is UNKNOWN here. */
    private static House done(House h, int op, int form, int r, int x, int d, int i) {
        h.plain(op, form, r, x, d, i);
        return ended(h);
    }

    private static House ended(House h) {
        DUE.is("build", h.build(), 0);
        int ran = h.run(60);
        DUE.is("a WALK STOPS as the RUN", h.walk(60), ran);
        for (int what = 0; what < 13; what++) {
            DUE.is("state " + what + " of the WALK", h.state(true, what), h.state(false, what));
        }
        return h;
    }

    private static House with(int r, int v) {
        House h = new House();
        h.set(0, r, v);
        return h;
    }

    private static void registersWrap() {
        DUE.sentence("Terms", "REGISTERS 0 .. 7 are ints (they wrap)");
        for (int r = 0; r < 8; r++) {
            DUE.is("ADD", done(with(r, MAX), 0, 5, r, 0, 0, 1).state(false, r), MIN);
            DUE.is("SUB", done(with(r, MIN), 5, 5, r, 0, 0, 1).state(false, r), MAX);
            DUE.is("INC", done(with(r, MAX), 17, 1, r, 0, 0, 0).state(false, r), MIN);
            DUE.is("DEC", done(with(r, MIN), 18, 1, r, 0, 0, 0).state(false, r), MAX);
            DUE.is("INC of -1", done(with(r, -1), 17, 1, r, 0, 0, 0).state(false, r), 0);
            DUE.is("DEC of 0", done(with(r, 0), 18, 1, r, 0, 0, 0).state(false, r), -1);
            DUE.is("NEG", done(with(r, MIN), 13, 1, r, 0, 0, 0).state(false, r), MIN);
            DUE.is("IMUL", done(with(r, 65537), 11, 2, r, r, 0, 0).state(false, r), 131073);
        }
    }

    private static void addressesWrap() {
        DUE.sentence("Terms", "It is the WORD at: register B + (register J shifted left by K) + D");
        int[][] xdBaseIndexAt = {{2 + 16 * NO, MIN, MIN, 0, 0}, {2 + 16 * NO, MIN, MIN + 1020, 0, 1020}, {2 + 16 * NO, MAX, MIN + 5, 0, 4}, {2 + 16 * 3, -8, 0, 12, 4},
            {2 + 16 * 3, MAX, MIN, 8, 7}, {2 + 16 * 3 + 256 * 3, -700, 1000, -1, 292}, {NO + 16 * 3 + 256, 2, 0, MIN, 2}, {NO + 16 * NO, 1020, 5, 5, 1020},
            {3 + 16 * 3 + 256 * 2, 0, 0, 100, 500}, {2 + 16 * NO, 0, 1020, 7, 1020}, {2 + 16 * NO, 1, 1020, 7, -1}, {2 + 16 * NO, -1, 0, 7, -1},
            {NO + 16 * 3, 0, 7, 1021, -1}, {2 + 16 * 3, MAX, MAX, 3, 1}};
        for (int[] one : xdBaseIndexAt) {
            House h = new House();
            h.set(0, 2, one[2]);
            h.set(0, 3, one[3]);
            done(h, 8, 6, 0, one[0], one[1], 0x11223344);
            DUE.is("X " + one[0] + " D " + one[1], h.state(false, 14), one[4] < 0 ? 3 : 1);
            if (one[4] >= 0) {
                DUE.is("the WORD", h.word(false, one[4]), 0x11223344);
                DUE.is("of a WALK", h.word(true, one[4]), 0x11223344);
            }
        }
        DUE.is("LEA wraps", done(with(5, MAX), 10, 3, 6, 5 + 16 * 5 + 256, 4, 0).state(false, 6), MAX * 3 + 4);
        DUE.is("LEA of nothing but D", done(with(0, 9), 10, 3, 6, DIRECT, MIN, 0).state(false, 6), MIN);
        DUE.is("LEA of R itself", done(with(6, 9), 10, 3, 6, 6 + 16 * 6 + 256 * 3, -1, 0).state(false, 6), 80);
        DUE.is("the STACK'S as base", done(with(4, 90), 10, 3, 6, 4 + 16 * NO, 4, 0).state(false, 6), 94);
    }

    private static void indexIsShifted() {
        DUE.sentence("Terms", "(register J shifted left by K)");
        for (int k = 0; k < 4; k++) {
            for (int j = 0; j < 8; j++) {
                if (j != 4) {
                    House h = with(j, 0xC0000003);
                    DUE.is("J " + j + " K " + k, done(h, 10, 3, 6, NO + 16 * j + 256 * k, 0, 0).state(false, 6), 0xC0000003 << k);
                }
            }
        }
    }

    private static void wordsLowestFirst() {
        DUE.sentence("Terms", "a WORD is the four bytes from an ADDRESS a on, the lowest first");
        House h = with(7, 0x81C2A3F4);
        done(h, 8, 4, 7, DIRECT, 1020, 0);
        int[] want = {0, 0xF4, 0xA3, 0xC2, 0x81};
        for (int k = 0; k < 5; k++) {
            DUE.is("BYTE", h.data(false, 1019 + k), want[k]);
            DUE.is("BYTE of a WALK", h.data(true, 1019 + k), want[k]);
        }
        House back = new House();
        back.set(1, 0, 0x8000);
        back.set(1, 4, 0xFF);
        DUE.is("taken from the middle", done(back, 8, 3, 6, DIRECT, 1, 0).state(false, 6), 0xFF000080);
    }

    private static void wordsMayOverlap() {
        DUE.sentence("Terms", "a WORD is the four bytes from an ADDRESS a on");
        House h = new House();
        h.plain(8, 6, 0, DIRECT, 0, -1);
        done(h, 8, 6, 0, DIRECT, 3, 0);
        DUE.is("WORD 0", h.word(false, 0), 0x00FFFFFF);
        DUE.is("WORD 3", h.word(false, 3), 0);
    }

    private static void leftAndRight() {
        DUE.sentence("Terms", "the left one (of FORM 4, 6, 7 the MEMORY, else R) and the right one");
        int[] due = {13, 11, 13, 7, 2, 7, 9, 10, 3};
        for (int op = 0; op <= 8; op++) {
            for (int form = 2; form <= 6; form++) {
                House h = new House();
                boolean inWord = form == 4 || form == 6;
                h.set(0, 2, form == 4 ? 3 : 10);
                h.set(0, 3, 3);
                h.set(1, 40, inWord ? 10 : 3);
                done(h, op, form, 2, form == 2 ? 3 : DIRECT, 40, 3);
                DUE.is("OP " + op + " FORM " + form, inWord ? h.word(false, 40) : h.state(false, 2), due[op]);
                DUE.is("of a WALK", inWord ? h.word(true, 40) : h.state(true, 2), due[op]);
                DUE.is("the right one stays", inWord ? h.state(false, 2) : h.word(false, 40), form == 6 ? 10 : 3);
                DUE.is("register 3 stays", h.state(false, 3), 3);
            }
        }
    }

    private static void leftStays() {
        DUE.sentence("Terms", "CMP is SUB, TEST is AND, but the left one stays");
        House h = with(2, 5);
        done(h, 7, 5, 2, 0, 0, 6);
        DUE.is("CMP", h.state(false, 2), 5);
        DUE.is("its C", h.state(false, 8), 1);
        House test = with(2, 4);
        test.set(0, 3, 3);
        done(test, 9, 2, 2, 3, 0, 0);
        DUE.is("TEST", test.state(false, 2), 4);
        DUE.is("its Z", test.state(false, 9), 1);
        House word = with(3, -1);
        word.set(1, 40, MIN);
        done(word, 9, 4, 3, DIRECT, 40, 0);
        DUE.is("TEST of a WORD", word.word(false, 40), MIN);
        DUE.is("its S", word.state(false, 10), 1);
    }

    private static void leaHasNoAccess() {
        DUE.sentence("Terms", "LEA: R becomes the address (no access)");
        for (int d : new int[] {MIN, -1, 0, 1020, 1021, 1024, MAX}) {
            House h = with(4, 100);
            h.set(1, 96, 7);
            h.set(1, 1020, 9);
            done(h, 10, 3, 2, DIRECT, d, 0);
            DUE.is("LEA of " + d, h.state(false, 2), d);
            DUE.is("it STOPS at the HALT behind it", h.state(false, 14), 1);
            DUE.is("the STACK'S stays", h.state(false, 4), 100);
            DUE.is("WORD 96 stays", h.word(false, 96), 7);
            DUE.is("WORD 1020 stays", h.word(false, 1020), 9);
        }
    }

    /** C by CMP 7, 1: on if register 7 is 0. */
    private static House withCarry(int c) {
        House h = with(7, c == 1 ? 0 : 1);
        h.plain(7, 5, 7, 0, 0, 1);
        return h;
    }

    private static void carryIn() {
        DUE.sentence("Terms", "ADC adds C (0 or 1), too, SBB takes it away, too");
        int[][] op = {{2, 1}, {3, -1}};
        for (int[] one : op) {
            for (int c = 0; c < 2; c++) {
                House h = withCarry(c);
                h.set(0, 2, 100);
                DUE.is("OP " + one[0] + " with C " + c, done(h, one[0], 5, 2, 0, 0, 0).state(false, 2), 100 + one[1] * c);
            }
        }
        House sum = withCarry(1);
        sum.set(0, 2, -1);
        done(sum, 2, 5, 2, 0, 0, -1);
        DUE.is("-1 + -1 + 1", sum.state(false, 2), -1);
        DUE.is("C", sum.state(false, 8), 1);
        House all = withCarry(1);
        all.set(0, 2, 0);
        done(all, 2, 5, 2, 0, 0, -1);
        DUE.is("0 + -1 + 1", all.state(false, 2), 0);
        DUE.is("C", all.state(false, 8), 1);
        DUE.is("Z", all.state(false, 9), 1);
        DUE.is("O", all.state(false, 11), 0);
        House most = withCarry(1);
        most.set(0, 2, MAX);
        done(most, 2, 5, 2, 0, 0, 0);
        DUE.is("MAX + 0 + 1: O", most.state(false, 11), 1);
        DUE.is("MAX + 0 + 1: C", most.state(false, 8), 0);
        House less = withCarry(1);
        less.set(0, 2, 5);
        done(less, 3, 5, 2, 0, 0, 5);
        DUE.is("5 - 5 - 1", less.state(false, 2), -1);
        DUE.is("C", less.state(false, 8), 1);
        House round = withCarry(1);
        round.set(0, 2, 0);
        done(round, 3, 5, 2, 0, 0, -1);
        DUE.is("0 - -1 - 1", round.state(false, 2), 0);
        DUE.is("C, what is taken away is 2^32", round.state(false, 8), 1);
        DUE.is("O", round.state(false, 11), 0);
        House least = withCarry(1);
        least.set(0, 2, MIN);
        done(least, 3, 5, 2, 0, 0, 0);
        DUE.is("MIN - 0 - 1: O", least.state(false, 11), 1);
    }

    private static void shiftsByFiveBits() {
        DUE.sentence("Terms", "SHL, SHR (zeros come), SAR (the sign comes): by the lowest five bits of I");
        for (int by : new int[] {0, 1, 31, 32, 33, 63, 64, 127, 128, 159, 224, 255}) {
            for (int v : new int[] {0x80000001, -1, MAX, 6}) {
                DUE.is("SHL by " + by, done(with(2, v), 14, 5, 2, 0, 0, by).state(false, 2), v << (by & 31));
                DUE.is("SHR by " + by, done(with(2, v), 15, 5, 2, 0, 0, by).state(false, 2), v >>> (by & 31));
                DUE.is("SAR by " + by, done(with(2, v), 16, 5, 2, 0, 0, by).state(false, 2), v >> (by & 31));
            }
        }
    }

    private static void shiftedOut() {
        DUE.sentence("Terms", "C is the bit that went out last; O: SHL: the result's highest bit is not C; SHR: the highest bit ahead; SAR: off");
        int[][] opValueByCarryOverflow = {{14, 0x80000000, 1, 1, 1}, {14, 0xC0000000, 1, 1, 0}, {14, 0x40000000, 1, 0, 1}, {14, 0x40000000, 2, 1, 1}, {14, 1, 31, 0, 1},
            {14, 2, 31, 1, 1}, {14, 3, 31, 1, 0}, {15, 1, 1, 1, 0}, {15, MIN, 1, 0, 1}, {15, MIN, 31, 0, 1}, {15, 0x40000000, 31, 1, 0}, {15, 2, 2, 1, 0}, {15, -1, 5, 1, 1},
            {16, 1, 1, 1, 0}, {16, MIN, 1, 0, 0}, {16, MIN, 31, 0, 0}, {16, -1, 31, 1, 0}, {16, 2, 2, 1, 0}};
        for (int[] one : opValueByCarryOverflow) {
            House h = with(2, one[1]);
            done(h, one[0], 5, 2, 0, 0, one[2]);
            String what = "OP " + one[0] + " of " + one[1] + " by " + one[2];
            DUE.is(what + ": C", h.state(false, 8), one[3]);
            DUE.is(what + ": O", h.state(false, 11), one[4]);
        }
    }

    private static void shiftsByZero() {
        DUE.sentence("Terms", "SHL, SHR, SAR by 0: none changes");
        for (int op = 14; op <= 16; op++) {
            for (int by : new int[] {0, 32, 64, 224}) {
                House h = withCarry(1);
                h.set(0, 2, 0);
                done(h, op, 5, 2, 0, 0, by);
                int[] want = {1, 0, 1, 0};
                for (int f = 0; f < 4; f++) {
                    DUE.is("OP " + op + " by " + by + ": FLAG " + f, h.state(false, 8 + f), want[f]);
                }
                House o = with(2, MIN);
                o.plain(7, 5, 2, 0, 0, 1);
                DUE.is("O stays", done(o, op, 5, 2, 0, 0, by).state(false, 11), 1);
            }
        }
        House word = with(5, -1);
        DUE.is("by 0 of a WORD that isn't there", done(word, 14, 6, 0, 5 + 16 * NO, 0, 0).state(false, 14), 3);
    }

    private static void pushAsItWas() {
        DUE.sentence("Terms", "the WORD there v (as it was ahead)");
        House h = with(4, 100);
        done(h, 19, 1, 4, 0, 0, 0);
        DUE.is("PUSH of the STACK'S", h.word(false, 96), 100);
        DUE.is("of a WALK", h.word(true, 96), 100);
        DUE.is("the STACK'S", h.state(false, 4), 96);
        for (int i : new int[] {-128, -129, 127, 128, MIN, MAX}) {
            House push = with(4, 100);
            DUE.is("PUSH " + i, done(push, 19, 8, 0, 0, 0, i).word(false, 96), i);
        }
    }

    private static void pushEdges() {
        DUE.sentence("Terms", "PUSH v: the STACK'S register becomes 4 less, the WORD there");
        int[][] stackStop = {{4, 1}, {5, 1}, {1024, 1}, {1023, 1}, {3, 3}, {0, 3}, {1025, 3}, {-1, 3}, {MIN, 3}, {MIN + 3, 3}, {MAX, 3}};
        for (int[] one : stackStop) {
            for (int form : new int[] {1, 8}) {
                House h = with(4, one[0]);
                done(h, 19, form, 5, 0, 0, 9);
                DUE.is("PUSH with " + one[0], h.state(false, 14), one[1]);
                DUE.is("the STACK'S", h.state(false, 4), one[1] == 1 ? one[0] - 4 : one[0]);
            }
        }
    }

    private static void popIntoTheStacks() {
        DUE.sentence("Terms", "then R becomes it (R the STACK'S, too)");
        House h = with(4, 100);
        h.set(1, 100, 77);
        DUE.is("POP 4", done(h, 20, 1, 4, 0, 0, 0).state(false, 4), 77);
        for (int r = 0; r < 8; r++) {
            House other = with(4, 1020);
            other.set(1, 1020, -5);
            done(other, 20, 1, r, 0, 0, 0);
            DUE.is("POP " + r, other.state(false, r), -5);
            DUE.is("the STACK'S", other.state(false, 4), r == 4 ? -5 : 1024);
            DUE.is("the WORD stays", other.word(false, 1020), -5);
        }
    }

    private static void popEdges() {
        DUE.sentence("Terms", "POP: the WORD at the STACK'S register is taken");
        for (int stack : new int[] {0, 1, 1020, 1021, 1024, -1, -4, MIN, MAX}) {
            boolean is = stack >= 0 && stack <= 1020;
            House h = with(4, stack);
            done(h, 20, 1, 2, 0, 0, 0);
            DUE.is("POP with " + stack, h.state(false, 14), is ? 1 : 3);
            DUE.is("the STACK'S", h.state(false, 4), is ? stack + 4 : stack);
        }
    }

    /** HALTS, and these BYTES, which end at 160; a JUMP from 256 on goes to them. */
    private static House endingAt160(int... bytes) {
        int i = 160 - bytes.length - 5;
        int[] code = House.with(House.filled(320, 244), 160 - bytes.length, bytes);
        return House.holding(House.with(code, 0, 233, i & 255, i >> 8 & 255, i >> 16 & 255, i >>> 24));
    }

    private static void goesTo(String what, int want, House h) {
        DUE.is(what, h.run(9), 1);
        DUE.is(what + ": it is at", h.state(false, 12), want);
        DUE.is(what + ": STEPS", h.state(false, 13), 3);
    }

    private static void targets() {
        DUE.sentence("Terms", "(I of 24 to 26: how far the TARGET is behind the INSTRUCTION'S end.)");
        int end = 256 + 160;
        for (int i : new int[] {-128, -127, 0, 1, 127}) {
            goesTo("JUMP by I1 " + i, end + i, endingAt160(235, i & 255));
            goesTo("BRANCH by I1 " + i, end + i, endingAt160(113, i & 255));
            goesTo("BRANCH by I1 that doesn't hold", end, endingAt160(112, i & 255));
        }
        for (int i : new int[] {-150, -129, -128, 0, 127, 128, 159}) {
            int[] four = {i & 255, i >> 8 & 255, i >> 16 & 255, i >>> 24};
            goesTo("JUMP by I4 " + i, end + i, endingAt160(233, four[0], four[1], four[2], four[3]));
            goesTo("BRANCH by I4 " + i, end + i, endingAt160(15, 133, four[0], four[1], four[2], four[3]));
            goesTo("BRANCH by I4 that doesn't hold", end, endingAt160(15, 132, four[0], four[1], four[2], four[3]));
            House call = endingAt160(232, four[0], four[1], four[2], four[3]);
            call.set(0, 4, 8);
            goesTo("CALL by " + i, end + i, call);
            DUE.is("it PUSHES", call.word(false, 4), end);
        }
        House round = endingAt160(235, 254);
        DUE.is("JUMP to itself", round.run(5000), 0);
        DUE.is("it is at", round.state(false, 12), end - 2);
    }

    private static void targetsOfServices() {
        DUE.sentence("III", "a SERVICE (as the TARGET of JUMP, BRANCH or CALL)");
        int[][] leads = {{233}, {15, 129}, {232}};
        for (int sort = 0; sort < 3; sort++) {
            for (int service = 0; service <= 48; service += 16) {
                int i = service - 272;
                int at = 12 - leads[sort].length;
                House h = House.holding(House.with(House.with(House.filled(48, 144), at, leads[sort]), 12, i & 255, i >> 8 & 255, i >> 16 & 255, i >>> 24));
                h.set(0, 4, 100);
                h.set(1, 100, 288);
                h.run(at + 1);
                DUE.is("it is at", h.state(false, 12), service);
                DUE.is("the STACK'S", h.state(false, 4), sort == 2 ? 96 : 100);
                DUE.is("then", h.run(at + 2), service == 0 ? 2 : 0);
                DUE.is("it is at", h.state(false, 12), service == 0 ? 0 : sort == 2 ? 272 : 288);
            }
        }
    }

    private static void calls() {
        DUE.sentence("Terms", "CALL: PUSH of the address behind it, on at the TARGET");
        for (int stack : new int[] {3, 4, 1024, 1025}) {
            House h = new House();
            h.set(0, 4, stack);
            h.flow(3, 0, 0);
            h.plain(17, 1, 7, 0, 0, 0);
            h.flow(0, 0, 0);
            ended(h);
            boolean is = stack == 4 || stack == 1024;
            DUE.is("CALL with " + stack, h.state(false, 14), is ? 1 : 3);
            DUE.is("it is at", h.state(false, 12), is ? 256 + h.place(1, 0) : 256 + 11);
            DUE.is("the STACK'S", h.state(false, 4), is ? stack - 4 : stack);
            DUE.is("the address behind it", is ? h.word(false, stack - 4) : 272, 272);
            DUE.is("INC is passed over", h.state(false, 7), 0);
        }
    }

    private static void gosubAsItWas() {
        DUE.sentence("Terms", "GOSUB: the same (R as it was ahead), with that PUSH");
        int[] code = House.with(House.filled(64, 244), 0, House.with(House.filled(16, 144), 11, 131, 228, 240, 255, 212));
        House h = House.holding(code);
        h.set(0, 4, 288 + 9);
        DUE.is("by the STACK'S", h.run(50), 1);
        DUE.is("it is at", h.state(false, 12), 288);
        DUE.is("the STACK'S", h.state(false, 4), 284);
        DUE.is("the address behind it", h.word(false, 284), 272);
        House other = House.holding(House.with(code, 12, 230, 240, 255, 214));
        other.set(0, 6, 304);
        other.set(0, 4, 4);
        DUE.is("by another one", other.run(50), 1);
        DUE.is("it is at", other.state(false, 12), 304);
        DUE.is("its register", other.state(false, 6), 304);
        DUE.is("the address behind it", other.word(false, 0), 272);
        other.set(0, 4, 3);
        DUE.is("without a WORD", other.run(50), 3);
        DUE.is("it is at", other.state(false, 12), 270);
        DUE.is("AND was a STEP", other.state(false, 13), 12);
    }

    private static void goMasks() {
        DUE.sentence("Terms", "GO: on at register R");
        for (int r = 0; r < 8; r++) {
            House h = House.holding(House.with(House.filled(48, 244), 0, 131, 224 + r, 240, 255, 224 + r));
            h.set(0, r, 288 + 15);
            DUE.is("GO " + r, h.run(50), 1);
            DUE.is("it is at", h.state(false, 12), 288);
            DUE.is("STEPS", h.state(false, 13), 3);
            DUE.is("its register", h.state(false, r), 288);
        }
    }

    private static void flags(String what, House h, int carry, int zero, int sign, int overflow) {
        int[] want = {carry, zero, sign, overflow};
        for (int f = 0; f < 4; f++) {
            DUE.is(what + ": FLAG " + f, h.state(false, 8 + f), want[f]);
        }
    }

    private static void carryOfSums() {
        DUE.sentence("Terms", "ADD, ADC: C the sum of the numbers without sign is above 32 bits, O that of those with sign is no int");
        flags("MAX + 1", done(with(2, MAX), 0, 5, 2, 0, 0, 1), 0, 0, 1, 1);
        flags("-1 + 1", done(with(2, -1), 0, 5, 2, 0, 0, 1), 1, 1, 0, 0);
        flags("MIN + MIN", done(with(2, MIN), 0, 5, 2, 0, 0, MIN), 1, 1, 0, 1);
        flags("MIN + -1", done(with(2, MIN), 0, 5, 2, 0, 0, -1), 1, 0, 0, 1);
        flags("-1 + -1", done(with(2, -1), 0, 5, 2, 0, 0, -1), 1, 0, 1, 0);
        flags("0 + -1", done(with(2, 0), 0, 5, 2, 0, 0, -1), 0, 0, 1, 0);
        flags("MAX + MIN", done(with(2, MAX), 0, 5, 2, 0, 0, MIN), 0, 0, 1, 0);
    }

    private static void carryOfDifferences() {
        DUE.sentence("Terms", "SUB, SBB, CMP, NEG: C what is taken away is more, without sign; O the difference with sign is no int");
        for (int op : new int[] {5, 7, 3}) {
            flags("0 - 1", done(with(2, 0), op, 5, 2, 0, 0, 1), 1, 0, 1, 0);
            flags("1 - 1", done(with(2, 1), op, 5, 2, 0, 0, 1), 0, 1, 0, 0);
            flags("MIN - 1", done(with(2, MIN), op, 5, 2, 0, 0, 1), 0, 0, 0, 1);
            flags("MAX - -1", done(with(2, MAX), op, 5, 2, 0, 0, -1), 1, 0, 1, 1);
            flags("0 - MIN", done(with(2, 0), op, 5, 2, 0, 0, MIN), 1, 0, 1, 1);
            flags("-1 - MIN", done(with(2, -1), op, 5, 2, 0, 0, MIN), 0, 0, 0, 0);
        }
    }

    private static void overflowOfNegative() {
        DUE.sentence("Terms", "NEG: 0 less it");
        flags("NEG 0", done(with(2, 0), 13, 1, 2, 0, 0, 0), 0, 1, 0, 0);
        flags("NEG 1", done(with(2, 1), 13, 1, 2, 0, 0, 0), 1, 0, 1, 0);
        flags("NEG -1", done(with(2, -1), 13, 1, 2, 0, 0, 0), 1, 0, 0, 0);
        flags("NEG MIN", done(with(2, MIN), 13, 1, 2, 0, 0, 0), 1, 0, 1, 1);
    }

    private static void products() {
        DUE.sentence("Terms", "IMUL: C, O: the product with sign is no int");
        int[][] leftRightOver = {{46340, 46340, 0}, {46341, 46341, 1}, {65536, 32768, 1}, {65536, -32768, 0}, {MIN, -1, 1}, {MIN, 1, 0}, {MAX, 2, 1}, {-1, -1, 0}, {0, MIN, 0}};
        for (int[] one : leftRightOver) {
            House h = with(2, one[0]);
            h.set(0, 3, one[1]);
            done(h, 11, 2, 2, 3, 0, 0);
            int product = one[0] * one[1];
            DUE.is("product", h.state(false, 2), product);
            flags(one[0] + " * " + one[1], h, one[2], product == 0 ? 1 : 0, product < 0 ? 1 : 0, one[2]);
        }
    }

    private static void incrementKeepsCarry() {
        DUE.sentence("Terms", "INC, DEC: like ADD 1, SUB 1, but C stays");
        for (int c = 0; c < 2; c++) {
            House inc = withCarry(c);
            inc.set(0, 2, -1);
            flags("INC -1", done(inc, 17, 1, 2, 0, 0, 0), c, 1, 0, 0);
            House most = withCarry(c);
            most.set(0, 2, MAX);
            flags("INC MAX", done(most, 17, 1, 2, 0, 0, 0), c, 0, 1, 1);
            House dec = withCarry(c);
            flags("DEC 0", done(dec, 18, 1, 2, 0, 0, 0), c, 0, 1, 0);
            House least = withCarry(c);
            least.set(0, 2, MIN);
            flags("DEC MIN", done(least, 18, 1, 2, 0, 0, 0), c, 0, 0, 1);
        }
    }

    private static void logicSwitchesOff() {
        DUE.sentence("Terms", "OR, AND, XOR, TEST: C, O off");
        for (int op : new int[] {1, 4, 6, 9}) {
            House h = with(2, MAX);
            h.set(0, 3, -1);
            // MAX less -1: C and O are on.
            h.plain(7, 2, 2, 3, 0, 0);
            done(h, op, 2, 2, 3, 0, 0);
            DUE.is("OP " + op + ": C", h.state(false, 8), 0);
            DUE.is("OP " + op + ": O", h.state(false, 11), 0);
            DUE.is("OP " + op + ": S", h.state(false, 10), op == 1 || op == 6 ? 1 : 0);
        }
    }

    private static void othersChangeNone() {
        DUE.sentence("Terms", "All others: none changes");
        int[][] plains = {{8, 5, 2, 0, 0, 0}, {8, 2, 2, 3, 0, 0}, {8, 3, 2, DIRECT, 0, 0}, {8, 4, 2, DIRECT, 0, 0}, {8, 6, 0, DIRECT, 0, 0}, {10, 3, 2, DIRECT, 0, 0},
            {12, 1, 2, 0, 0, 0}, {12, 7, 0, DIRECT, 0, 0}, {19, 1, 2, 0, 0, 0}, {19, 8, 0, 0, 0, 0}, {20, 1, 2, 0, 0, 0}, {21, 0, 0, 0, 0, 0}, {22, 0, 0, 0, 0, 0}};
        for (int[] p : plains) {
            for (int turn = 0; turn < 2; turn++) {
                House h = with(4, 100);
                h.set(0, 5, turn == 0 ? MAX : 0);
                h.plain(7, 5, 5, 0, 0, turn == 0 ? -1 : 0);
                flags("OP " + p[0] + " FORM " + p[1], done(h, p[0], p[1], p[2], p[3], p[4], p[5]), 1 - turn, turn, 1 - turn, 1 - turn);
            }
        }
    }

    /** Each way that the FLAGS can stand, made by one CMP or ADD; each c against them. */
    private static void conditions() {
        DUE.sentence("Terms", "c: 0 O, 2 C, 4 Z, 6 C or Z, 8 S, 12 S is not O, 14 Z, or S is not O; one more: not that");
        int[][] opLeftRight = {{7, 1, 0}, {7, 0, 0}, {7, -1, 0}, {7, MIN, 1}, {7, 0, 1}, {7, 1, -1}, {7, MAX, -1}, {0, -1, 1}, {0, MIN, MIN}, {0, MIN, -1}, {0, MAX, 1}, {0, -1, -1}};
        for (int[] one : opLeftRight) {
            for (int c = 0; c < 16; c++) {
                if (c != 10 && c != 11) {
                    House h = with(2, one[1]);
                    h.plain(one[0], 5, 2, 0, 0, one[2]);
                    h.flow(2, 0, c);
                    h.plain(8, 5, 7, 0, 0, 1);
                    h.flow(0, 0, 0);
                    ended(h);
                    boolean carry = h.state(false, 8) == 1;
                    boolean zero = h.state(false, 9) == 1;
                    boolean sign = h.state(false, 10) == 1;
                    boolean over = h.state(false, 11) == 1;
                    boolean[] holds = {over, carry, zero, carry || zero, sign, false, sign != over, zero || sign != over};
                    boolean taken = holds[c / 2] != (c % 2 == 1);
                    DUE.is("c " + c + " behind " + one[0] + ": " + one[1] + ", " + one[2], h.state(false, 7), taken ? 0 : 1);
                }
            }
        }
    }
}
