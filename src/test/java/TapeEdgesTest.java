/** Promises 1 to 5, sentence by sentence: each boundary case that one names has a test of its own. */
final class TapeEdgesTest {
    private static final Due DUE = new Due();
    private static final int MIN = Integer.MIN_VALUE;
    private static final int MAX = Integer.MAX_VALUE;
    private static final String NO_SUCH = "NoSuchElementException";
    private static final String NO_STATE = "IllegalStateException";

    public static void main(String[] args) {
        newHasNoTape();
        newHasNoCode();
        newHasNoProgram();
        newHasNoDraft();
        newRegistersAreZero();
        newDataAreZero();
        newInputIsNone();
        objectsAreApart();
        feedTakesTwenty();
        feedHighestFirst();
        feedUpTo1100();
        feedRefusedChangesNothing();
        endKeepsTheFirst();
        endOfAllAndOfNone();
        endRefused();
        endRefusedChangesNothing();
        checkEmptiesTheTape();
        checkMakesTheCode();
        checkDropsTheProgram();
        checkForgetsRuns();
        checkWithFaultKeepsAll();
        checkLeavesOthersAlone();
        faultOfNone();
        faultOfTheLatest();
        faultPlaceOrItem();
        faultOfAnotherWhat();
        DUE.end();
    }

    private static void newHasNoTape() {
        DUE.sentence("1", "No TAPE");
        House h = new House();
        DUE.is("end(1)", h.end(1), false);
        DUE.is("end(0)", h.end(0), true);
        DUE.is("check", h.check(), 1);
        DUE.is("its n", h.fault(1), 0);
    }

    private static void newHasNoCode() {
        DUE.sentence("1", "no CODE");
        House h = new House();
        DUE.is("size", h.size(), 0);
        DUE.is("code(0)", h.code(0), -1);
        DUE.refuses("decoded(0, 0)", NO_SUCH, () -> h.decoded(0, 0));
        DUE.refuses("decoded(0, 7)", NO_SUCH, () -> h.decoded(0, 7));
        DUE.refuses("run", NO_STATE, () -> h.run(1));
        DUE.refuses("run", NO_STATE, () -> h.run(5000));
        DUE.refuses("state", NO_SUCH, () -> h.state(false, 0));
        DUE.refuses("output", NO_SUCH, () -> h.output(false, 0));
        DUE.is("data", h.data(false, 0), -1);
    }

    private static void newHasNoProgram() {
        DUE.sentence("1", "no CODE");
        House h = new House();
        DUE.is("place of an ITEM", h.place(0, 0), -1);
        DUE.is("place of a LABEL", h.place(1, 0), -1);
        DUE.is("how many ITEMS", h.place(2, 0), -1);
        DUE.refuses("walk", NO_STATE, () -> h.walk(1));
        DUE.refuses("state", NO_SUCH, () -> h.state(true, 0));
        DUE.refuses("output", NO_SUCH, () -> h.output(true, 0));
        DUE.is("data", h.data(true, 0), -1);
    }

    private static void newHasNoDraft() {
        DUE.sentence("1", "no DRAFT");
        DUE.is("clear", new House().clear(), 0);
        DUE.is("the first INSTRUCTION", new House().plain(21, 0, 0, 0, 0, 0), 1);
        DUE.is("the first of flow", new House().flow(7, 0, 0), 1);
        House h = new House();
        DUE.is("build of nothing", h.build(), 0);
        DUE.is("size", h.size(), 16);
        for (int k = 0; k < 16; k++) {
            DUE.is("a HALT", h.code(k), 244);
        }
        DUE.is("ITEMS", h.place(2, 0), 0);
    }

    private static void newRegistersAreZero() {
        DUE.sentence("1", "registers .. to begin with: 0");
        House h = House.holding(244);
        h.run(1);
        for (int k = 0; k < 8; k++) {
            DUE.is("register " + k, h.state(false, k), 0);
        }
        House walked = new House();
        walked.build();
        walked.walk(1);
        for (int k = 0; k < 8; k++) {
            DUE.is("register " + k + " of a WALK", walked.state(true, k), 0);
        }
    }

    private static void newDataAreZero() {
        DUE.sentence("1", "DATA .. to begin with: 0");
        House h = new House();
        for (int a = 0; a < 1024; a++) {
            if (a % 200 == 0) {
                h = new House();
                h.build();
                h.run(1);
                h.walk(1);
            }
            DUE.is("BYTE " + a, h.data(false, a), 0);
            DUE.is("BYTE " + a + " of a WALK", h.data(true, a), 0);
        }
    }

    private static void newInputIsNone() {
        DUE.sentence("1", "INPUT to begin with: none");
        House h = new House();
        h.set(0, 0, 77);
        h.set(0, 4, 100);
        h.flow(4, 2, 0);
        h.build();
        DUE.is("run", h.run(50), 1);
        DUE.is("IN", h.state(false, 0), 0);
        DUE.is("walk", h.walk(50), 1);
        DUE.is("IN of a WALK", h.state(true, 0), 0);
    }

    private static void objectsAreApart() {
        DUE.sentence("Terms", "All memory is the class's own");
        House one = House.holding(244);
        one.set(0, 3, 7);
        one.set(1, 0, 7);
        one.set(2, 0, 7);
        one.nops(3);
        one.feed(1, 1, 1, 1, 1);
        one.run(1);
        House other = new House();
        DUE.is("TAPE of another one", other.end(1), false);
        DUE.is("CODE of another one", other.size(), 0);
        DUE.is("DRAFT of another one", other.clear(), 0);
        other.build();
        other.run(1);
        DUE.is("register of another one", other.state(false, 3), 0);
        DUE.is("DATA of another one", other.data(false, 0), 0);
        DUE.is("the first one has them still", one.state(false, 3), 7);
    }

    private static void feedTakesTwenty() {
        DUE.sentence("2", "Twenty BYTES more on the TAPE .. true");
        House h = new House();
        DUE.is("feed", h.feed(0, 0, 0, 0, 0), true);
        DUE.is("end(21)", h.end(21), false);
        DUE.is("end(20)", h.end(20), true);
        DUE.is("feed", h.feed(MIN, MAX, -1, 0, 1), true);
        DUE.is("end(41)", h.end(41), false);
        DUE.is("end(40)", h.end(40), true);
        DUE.is("end(0)", h.end(0), true);
        DUE.is("feed", h.feed(0, 0, 0, 0, 0), true);
        DUE.is("end(21)", h.end(21), false);
        DUE.is("end(20)", h.end(20), true);
    }

    private static void feedHighestFirst() {
        DUE.sentence("2", "four in each number, the highest first");
        House h = new House();
        // MOV 0, MOV 7, PUSH I4, HALT; then MOV 1 from the last number and the next feed.
        h.feed(0xB8FFFE80, 0x7FBF0102, 0x03FF6880, 0x000001F4, 0xB9112233);
        h.feed(0x4490F4F4, 0xF4F4F4F4, 0xF4F4F4F4, 0, 0);
        DUE.is("end(32)", h.end(32), true);
        DUE.is("check", h.check(), 0);
        int[] want = {0xB8, 0xFF, 0xFE, 0x80, 0x7F, 0xBF, 1, 2, 3, 0xFF, 0x68, 0x80, 0, 0, 1, 0xF4, 0xB9, 0x11, 0x22, 0x33, 0x44, 0x90, 0xF4};
        for (int k = 0; k < want.length; k++) {
            DUE.is("code " + k, h.code(k), want[k]);
        }
        h.run(9);
        DUE.is("MOV 0", h.state(false, 0), 0x7F80FEFF);
        DUE.is("MOV 7", h.state(false, 7), 0xFF030201);
    }

    private static void feedUpTo1100() {
        DUE.sentence("2", "false .. if it would have more than 1100");
        House h = new House();
        for (int k = 1; k <= 55; k++) {
            DUE.is("feed to " + 20 * k, h.feed(0, 0, 0, 0, 0), true);
        }
        DUE.is("feed to 1120", h.feed(0, 0, 0, 0, 0), false);
        DUE.is("end(1099)", h.end(1099), true);
        DUE.is("feed to 1119", h.feed(0, 0, 0, 0, 0), false);
        DUE.is("end(1081)", h.end(1081), true);
        DUE.is("feed to 1101", h.feed(0, 0, 0, 0, 0), false);
        DUE.is("end(1080)", h.end(1080), true);
        DUE.is("feed to 1100", h.feed(0, 0, 0, 0, 0), true);
        DUE.is("feed to 1120 again", h.feed(0, 0, 0, 0, 0), false);
    }

    private static void feedRefusedChangesNothing() {
        DUE.sentence("2", "false, and nothing happens");
        House h = new House();
        for (int k = 0; k < 55; k++) {
            h.feed(0x90909090, 0x90909090, 0x90909090, 0x90909090, 0x90909090);
        }
        h.end(1081);
        DUE.is("feed", h.feed(-1, -1, -1, -1, -1), false);
        DUE.is("no BYTE more", h.end(1082), false);
        DUE.is("no BYTE less", h.end(1081), true);
        DUE.is("end(1024)", h.end(1024), true);
        DUE.is("the BYTES are as they were", h.check(), 0);
        DUE.is("the first one", h.code(0), 0x90);
        DUE.is("the last one", h.code(1023), 0x90);
    }

    private static void endKeepsTheFirst() {
        DUE.sentence("3", "The TAPE has its first n BYTES alone: true");
        House h = new House();
        h.feed(0x40414243, 0x44454647, 0x48494A4B, 0x4C4D4E4F, 0x90909090);
        DUE.is("end(16)", h.end(16), true);
        DUE.is("end(17)", h.end(17), false);
        DUE.is("end(20)", h.end(20), false);
        DUE.is("check", h.check(), 0);
        DUE.is("size", h.size(), 16);
        for (int k = 0; k < 16; k++) {
            DUE.is("BYTE " + k, h.code(k), 0x40 + k);
        }
        House on = new House();
        on.feed(0x40414243, -1, -1, -1, -1);
        on.end(3);
        on.feed(0x90909090, 0x90909090, 0x90909090, 0x90F4F4F4, 0);
        DUE.is("feed behind what is left", on.end(16), true);
        DUE.is("check", on.check(), 0);
        DUE.is("BYTE 2", on.code(2), 0x42);
        DUE.is("BYTE 3", on.code(3), 0x90);
    }

    private static void endOfAllAndOfNone() {
        DUE.sentence("3", "The TAPE has its first n BYTES alone: true");
        House h = new House();
        DUE.is("of none: end(0)", h.end(0), true);
        h.feed(0, 0, 0, 0, 0);
        DUE.is("all of them", h.end(20), true);
        DUE.is("all of them again", h.end(20), true);
        DUE.is("all but one", h.end(19), true);
        DUE.is("one", h.end(1), true);
        DUE.is("none", h.end(0), true);
        DUE.is("none again", h.end(0), true);
        DUE.is("one of none", h.end(1), false);
    }

    private static void endRefused() {
        DUE.sentence("3", "false .. if it has not so many, or n is below 0");
        House h = new House();
        h.feed(0, 0, 0, 0, 0);
        for (int n : new int[] {21, 22, 40, 1100, 1101, MAX}) {
            DUE.is("not so many: end(" + n + ")", h.end(n), false);
        }
        for (int n : new int[] {-1, -2, -20, MIN}) {
            DUE.is("below 0: end(" + n + ")", h.end(n), false);
        }
        House full = new House();
        for (int k = 0; k < 55; k++) {
            full.feed(0, 0, 0, 0, 0);
        }
        DUE.is("end(1101)", full.end(1101), false);
        DUE.is("end(1100)", full.end(1100), true);
    }

    private static void endRefusedChangesNothing() {
        DUE.sentence("3", "false, and nothing happens");
        House h = new House();
        h.feed(0x90909090, 0x90909090, 0x90909090, 0x90909040, 0);
        h.end(16);
        h.end(-1);
        h.end(17);
        h.end(MAX);
        DUE.is("still sixteen", h.end(16), true);
        DUE.is("not one more", h.end(17), false);
        DUE.is("check", h.check(), 0);
        DUE.is("its last BYTE", h.code(15), 0x40);
    }

    private static void checkEmptiesTheTape() {
        DUE.sentence("4", "The TAPE, which is empty then");
        House right = new House();
        right.tape(House.filled(16, 144));
        DUE.is("without a FAULT", right.check(), 0);
        DUE.is("empty", right.end(1), false);
        DUE.is("check again", right.check(), 1);
        DUE.is("n", right.fault(1), 0);
        House wrong = new House();
        wrong.tape(House.filled(16, 0));
        DUE.is("with a FAULT", wrong.check(), 2);
        DUE.is("empty, too", wrong.end(1), false);
        wrong.tape(House.filled(17, 144));
        DUE.is("with another one", wrong.check(), 1);
        DUE.is("empty, too", wrong.end(1), false);
        wrong.feed(0x90909090, 0x90909090, 0x90909090, 0x90909090, 0);
        wrong.end(16);
        DUE.is("what comes later begins anew", wrong.check(), 0);
    }

    private static void checkMakesTheCode() {
        DUE.sentence("4", "0, and it is THE CODE");
        House h = new House();
        h.tape(House.with(House.filled(32, 144), 16, 64, 65, 66));
        DUE.is("check", h.check(), 0);
        DUE.is("size", h.size(), 32);
        DUE.is("BYTE 16", h.code(16), 64);
        h.tape(House.filled(16, 244));
        DUE.is("the TAPE alone changes nothing", h.size(), 32);
        DUE.is("check", h.check(), 0);
        DUE.is("a shorter one", h.size(), 16);
        DUE.is("BYTE 15", h.code(15), 244);
        DUE.is("BYTE 16 is no more", h.code(16), -1);
        DUE.refuses("nothing is there", NO_SUCH, () -> h.decoded(16, 0));
        DUE.is("run", h.run(5), 1);
        DUE.is("it STOPS at once", h.state(false, 13), 1);
    }

    private static void checkDropsTheProgram() {
        DUE.sentence("4", "there is no PROGRAM then");
        House h = new House();
        h.flow(0, 3, 1);
        h.build();
        DUE.is("ITEMS", h.place(2, 0), 1);
        h.tape(House.filled(16, 244));
        DUE.is("check", h.check(), 0);
        DUE.is("ITEMS", h.place(2, 0), -1);
        DUE.is("ITEM", h.place(0, 0), -1);
        DUE.is("LABEL", h.place(1, 3), -1);
        DUE.refuses("walk", NO_STATE, () -> h.walk(5));
        DUE.is("build again", h.build(), 0);
        DUE.is("LABEL again", h.place(1, 3), 0);
        DUE.is("walk again", h.walk(5), 1);
    }

    private static void checkForgetsRuns() {
        DUE.sentence("17", "Of the latest RUN (walk false) or WALK of this CODE");
        House h = new House();
        h.set(0, 3, 9);
        h.set(0, 4, 99);
        h.flow(4, 1, 0);
        h.build();
        h.run(50);
        h.walk(50);
        DUE.is("OUTPUT of the RUN", h.output(false, 0), 9);
        h.tape(House.filled(16, 144));
        h.check();
        for (int k = 0; k < 2; k++) {
            boolean walk = k == 1;
            DUE.refuses("state", NO_SUCH, () -> h.state(walk, 14));
            DUE.refuses("output", NO_SUCH, () -> h.output(walk, 0));
            DUE.is("data", h.data(walk, 0), -1);
        }
        h.run(1);
        DUE.is("a RUN of the new one", h.state(false, 14), 0);
        DUE.refuses("but no WALK", NO_SUCH, () -> h.state(true, 14));
    }

    private static void checkWithFaultKeepsAll() {
        DUE.sentence("4", "else its FAULT (what there is stays)");
        int[][] wrong = {{}, House.filled(17, 144), House.filled(16, 0), House.with(House.filled(32, 144), 15, 49, 192),
            House.padded(144, 255, 224), House.padded(144, 232, 0, 0, 0, 0), House.padded(144, 235, 255)};
        for (int k = 0; k < wrong.length; k++) {
            House h = new House();
            h.set(0, 3, 9);
            h.set(0, 4, 99);
            h.flow(0, 7, 1);
            h.plain(8, 5, 0, 0, 0, 0x90909090);
            h.flow(4, 1, 0);
            h.build();
            h.run(50);
            h.walk(50);
            h.tape(wrong[k]);
            DUE.is("check", h.check(), k == 0 ? 1 : k);
            DUE.is("size", h.size(), 32);
            DUE.is("BYTE", h.code(11), 232);
            DUE.is("START", h.decoded(11, 7), 1);
            DUE.is("no START", h.decoded(1, 7), 0);
            DUE.is("ITEMS", h.place(2, 0), 3);
            DUE.is("LABEL", h.place(1, 7), 0);
            DUE.is("RUN", h.state(false, 14), 1);
            DUE.is("WALK", h.state(true, 13), 4);
            DUE.is("OUTPUT", h.output(true, 0), 9);
            DUE.is("DATA", h.data(false, 96), 1);
            DUE.is("run again", h.run(50), 1);
            DUE.is("walk again", h.walk(50), 1);
            DUE.is("DRAFT", h.clear(), 3);
        }
    }

    private static void checkLeavesOthersAlone() {
        DUE.sentence("4", "0, and it is THE CODE");
        House h = new House();
        h.set(0, 3, 9);
        h.set(1, 8, 5);
        h.nops(4);
        h.tape(House.filled(16, 244));
        h.check();
        h.run(1);
        DUE.is("what set() told stays: register", h.state(false, 3), 9);
        DUE.is("what set() told stays: WORD", h.data(false, 8), 5);
        DUE.is("THE DRAFT stays", h.clear(), 4);
    }

    private static void faultOfNone() {
        DUE.sentence("5", "(0: none, or there was none of these), .. (NONE without one)");
        House h = new House();
        DUE.is("new: fault(0)", h.fault(0), 0);
        DUE.is("new: fault(1)", h.fault(1), -1);
        h.plain(99, 0, 0, 0, 0, 0);
        h.end(7);
        h.set(9, 9, 9);
        DUE.is("behind refused calls: fault(0)", h.fault(0), 0);
        DUE.is("behind refused calls: fault(1)", h.fault(1), -1);
        h.build();
        DUE.is("behind build: fault(0)", h.fault(0), 0);
        DUE.is("behind build: fault(1)", h.fault(1), -1);
        h.tape(House.filled(16, 144));
        h.check();
        DUE.is("behind check: fault(0)", h.fault(0), 0);
        DUE.is("behind check: fault(1)", h.fault(1), -1);
    }

    private static void faultOfTheLatest() {
        DUE.sentence("5", "Of the latest check() or build()");
        House h = new House();
        h.tape(House.with(House.filled(16, 144), 9, 195));
        h.check();
        DUE.is("of check", h.fault(0), 2);
        DUE.is("its place", h.fault(1), 9);
        h.nops(3);
        h.flow(8, 5, 0);
        h.flow(0, 5, 0);
        h.build();
        DUE.is("of build", h.fault(0), 3);
        DUE.is("its ITEM", h.fault(1), 3);
        h.check();
        DUE.is("of check again", h.fault(0), 1);
        DUE.is("n", h.fault(1), 0);
        h.clear();
        h.flow(3, 5, 0);
        DUE.is("flow and clear change nothing", h.fault(0), 1);
        h.build();
        DUE.is("of build again", h.fault(0), 2);
        DUE.is("its ITEM", h.fault(1), 0);
        h.flow(0, 5, 0);
        h.build();
        DUE.is("of a build without one", h.fault(0), 0);
        DUE.is("NONE", h.fault(1), -1);
        h.run(1);
        h.tape(House.padded(144, 144, 255, 224));
        h.check();
        h.tape(House.filled(16, 144));
        DUE.is("the TAPE changes nothing", h.fault(0), 4);
        h.check();
        DUE.is("of a check without one", h.fault(0), 0);
        DUE.is("NONE again", h.fault(1), -1);
    }

    private static void faultPlaceOrItem() {
        DUE.sentence("5", "1: its place or ITEM (NONE without one)");
        for (int n : new int[] {0, 1, 1023, 1025, 1100}) {
            House h = new House();
            h.tape(House.filled(n, 144));
            DUE.is("check", h.check(), 1);
            DUE.is("FAULT 1 is at n", h.fault(1), n);
        }
        House first = new House();
        first.tape(House.filled(16, 0));
        first.check();
        DUE.is("at place 0", first.fault(1), 0);
        House last = new House();
        last.tape(House.with(House.filled(1024, 144), 1023, 195));
        last.check();
        DUE.is("at place 1023", last.fault(1), 1023);
        House item = new House();
        item.nops(119);
        item.flow(1, 0, 0);
        item.build();
        DUE.is("ITEM 119", item.fault(1), 119);
        House big = new House();
        for (int k = 0; k < 64; k++) {
            big.flow(4, 0, 0);
        }
        DUE.is("build", big.build(), 4);
        DUE.is("FAULT 4 is at NONE", big.fault(1), -1);
    }

    private static void faultOfAnotherWhat() {
        DUE.sentence("5", "NONE for another what");
        House h = new House();
        for (int turn = 0; turn < 2; turn++) {
            for (int what : new int[] {-1, 2, 3, MIN, MAX}) {
                DUE.is("fault(" + what + ")", h.fault(what), -1);
            }
            h.tape(House.filled(16, 0));
            h.check();
        }
        DUE.is("fault(0) is the FAULT", h.fault(0), 2);
    }
}
