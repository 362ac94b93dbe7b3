/** Promises 4 and 5: check and fault; the FAULTS of THE POLICY. */
final class PolicyTest {
    private static final Due DUE = new Due();

    public static void main(String[] args) {
        sizes();
        instructions();
        bundles();
        pairs();
        lastOnes();
        targets();
        targetOrder();
        whatStays();
        DUE.end();
    }

    private static void holds(String what, int fault, int place, int... bytes) {
        House h = new House();
        h.tape(bytes);
        DUE.is(what + ": check", h.check(), fault);
        DUE.is(what + ": fault(0)", h.fault(0), fault);
        DUE.is(what + ": fault(1)", h.fault(1), place);
        DUE.is(what + ": fault(2)", h.fault(2), -1);
        DUE.is(what + ": fault(-1)", h.fault(-1), -1);
        DUE.is(what + ": size", h.size(), fault == 0 ? bytes.length : 0);
        DUE.is(what + ": the TAPE is empty", h.end(1), false);
    }

    /** The BYTES with NOPS behind them. */
    private static void holdsPadded(String what, int fault, int place, int... bytes) {
        holds(what, fault, place, House.padded(House.NOP, bytes));
    }

    private static void sizes() {
        holds("none", 1, 0);
        for (int n : new int[] {1, 15, 17, 31, 1023, 1025, 1040, 1056, 1088}) {
            holds("size " + n, 1, n, House.filled(n, House.NOP));
        }
        for (int n : new int[] {16, 32, 48, 1008, 1024}) {
            holds("size " + n, 0, -1, House.filled(n, House.NOP));
        }
        holds("the size is ahead of all", 1, 17, House.filled(17, 0));
    }

    private static void instructions() {
        holdsPadded("no INSTRUCTION", 2, 1, 144, 0);
        holdsPadded("RET", 2, 2, 144, 144, 195);
        holds("beyond the end", 2, 12, House.with(House.filled(16, 144), 12, 184, 1, 2, 3));
        holds("beyond the end, in the lead", 2, 15, House.with(House.filled(16, 144), 15, 15));
        holds("the same at the first BUNDLE'S end", 3, 12, House.with(House.filled(32, 144), 12, 184, 1, 2, 3));
        holds("the first place", 2, 3, House.with(House.with(House.filled(32, 144), 3, 0), 20, 195));
        holds("a later BUNDLE", 2, 20, House.with(House.filled(32, 144), 20, 195));
        holdsPadded("RET inside of another", 0, -1, 184, 195, 195, 195, 195);
    }

    private static void bundles() {
        holds("two BYTES over the end", 3, 15, House.with(House.filled(32, 144), 15, 49, 192));
        holds("just up to the end", 0, -1, House.with(House.filled(32, 144), 14, 49, 192));
        holds("GO over the end is 3 ahead of 4", 3, 15, House.with(House.filled(32, 144), 15, 255, 224));
        holds("CALL over the end is 3 ahead of 5", 3, 13, House.with(House.filled(32, 144), 13, 232, 0, 0, 0, 0));
        holds("a BUNDLE begins anew", 2, 16, House.with(House.filled(32, 144), 16, 0));
    }

    private static void pairs() {
        holdsPadded("a PAIR", 0, -1, 131, 224, 240, 255, 224);
        holdsPadded("GO alone", 4, 0, 255, 224);
        holdsPadded("another register", 4, 3, 131, 225, 240, 255, 224);
        holdsPadded("another number", 4, 3, 131, 224, 241, 255, 224);
        holdsPadded("another OP", 4, 3, 131, 200, 240, 255, 224);
        holdsPadded("a NOP between", 4, 4, 131, 224, 240, 144, 255, 224);
        holdsPadded("the AND with I4", 4, 6, 129, 224, 240, 255, 255, 255, 255, 224);
        holdsPadded("the AND of a WORD", 4, 3, 131, 32, 240, 255, 224);
        holdsPadded("a second GO", 4, 5, 131, 224, 240, 255, 224, 255, 224);
        holdsPadded("GO of the STACK'S", 0, -1, 131, 228, 240, 255, 228);
        holdsPadded("the AND only inside of another", 4, 5, 184, 0, 131, 224, 240, 255, 224);
        holds("the AND in the BUNDLE ahead", 4, 16,
            House.with(House.filled(32, 144), 13, 131, 224, 240, 255, 224));
        holds("GOSUB", 0, -1, House.with(House.filled(16, 144), 11, 131, 231, 240, 255, 215));
        holds("GOSUB alone", 4, 14, House.with(House.filled(16, 144), 14, 255, 215));
        holdsPadded("GOSUB alone, not LAST: the least", 4, 0, 255, 215);
    }

    private static void lastOnes() {
        holdsPadded("GOSUB not LAST", 5, 3, 131, 231, 240, 255, 215);
        holdsPadded("CALL not LAST", 5, 1, 144, 232, 0, 0, 0, 0);
        holds("CALL LAST", 0, -1, House.with(House.filled(32, 144), 11, 232, 0, 0, 0, 0));
        holds("5 ahead of a later 2", 5, 0, House.with(House.filled(16, 144), 0, 232, 0, 0, 0, 0, 195));
        holds("2 ahead of a later 5", 2, 0, House.with(House.filled(16, 144), 0, 195, 232, 0, 0, 0, 0));
    }

    /** JUMP of five BYTES at 0 to this address. */
    private static int[] jumpTo(int address) {
        int i = address - 256 - 5;
        return new int[] {233, i & 255, i >> 8 & 255, i >> 16 & 255, i >> 24 & 255, 131, 224, 240, 255, 224, 184, 0, 0, 0, 0};
    }

    private static void targets() {
        for (int service = -16; service <= 64; service += 8) {
            boolean is = service >= 0 && service < 64 && service % 16 == 0;
            holdsPadded("TARGET " + service, is ? 0 : 6, is ? -1 : 0, jumpTo(service));
        }
        int[] starts = {0, 5, 10, 15};
        for (int at = -1; at <= 16; at++) {
            boolean is = java.util.Arrays.binarySearch(starts, at) >= 0;
            holdsPadded("TARGET 256 + " + at, is ? 0 : 6, is ? -1 : 0, jumpTo(256 + at));
        }
        holdsPadded("TARGET far on", 6, 0, jumpTo(Integer.MAX_VALUE));
        holdsPadded("TARGET far back", 6, 0, jumpTo(Integer.MIN_VALUE));
        holdsPadded("BRANCH itself", 0, -1, 116, 254);
        holdsPadded("BRANCH into itself", 6, 0, 116, 255);
        holdsPadded("long BRANCH itself", 0, -1, 15, 132, 250, 255, 255, 255);
        holdsPadded("long BRANCH astray", 6, 1, 144, 15, 132, 251, 255, 255, 255);
        holds("CALL to the end", 6, 11, House.with(House.filled(16, 144), 11, 232, 0, 0, 0, 0));
        holds("JUMP to another BUNDLE", 0, -1, House.with(House.filled(32, 144), 0, 235, 14));
        holdsPadded("GOES nowhere, but is none", 0, -1, 106, 255);
    }

    private static void targetOrder() {
        holds("6 only behind all others", 2, 30, House.with(House.with(House.filled(32, 144), 0, 235, 200), 30, 0));
        holds("the first of them", 6, 2, House.with(House.filled(32, 144), 2, 235, 200, 235, 200));
    }

    private static void whatStays() {
        House h = new House();
        h.plain(21, 0, 0, 0, 0, 0);
        DUE.is("build", h.build(), 0);
        h.run(5);
        h.walk(5);
        h.tape(195);
        DUE.is("a wrong TAPE", h.check(), 1);
        DUE.is("CODE stays", h.size(), 16);
        DUE.is("PROGRAM stays", h.place(2, 0), 1);
        DUE.is("RUN stays", h.state(false, 13), 2);
        DUE.is("WALK stays", h.state(true, 13), 2);
        h.tape(House.filled(32, 144));
        DUE.is("a right TAPE", h.check(), 0);
        DUE.is("fault(0) of it", h.fault(0), 0);
        DUE.is("fault(1) of it", h.fault(1), -1);
        DUE.is("new CODE", h.size(), 32);
        DUE.is("no PROGRAM", h.place(2, 0), -1);
        DUE.is("no LABEL", h.place(1, 0), -1);
        DUE.is("no ITEM", h.place(0, 0), -1);
        DUE.is("no DATA", h.data(false, 0), -1);
        DUE.refuses("no RUN of it", "NoSuchElementException", () -> h.state(false, 13));
        DUE.refuses("no WALK of it", "NoSuchElementException", () -> h.state(true, 13));
        DUE.refuses("walk", "IllegalStateException", () -> h.walk(5));
        DUE.is("check of nothing", h.check(), 1);
        DUE.is("at 0", h.fault(1), 0);
        DUE.is("CODE stays still", h.size(), 32);
        DUE.is("THE DRAFT stays", h.clear(), 1);
    }
}
