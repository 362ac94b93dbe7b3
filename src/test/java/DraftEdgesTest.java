/** Promises 6 to 9, sentence by sentence: each boundary case that one names has a test of its own. */
final class DraftEdgesTest {
    private static final Due DUE = new Due();
    private static final int MIN = Integer.MIN_VALUE;
    private static final int MAX = Integer.MAX_VALUE;
    private static final int[] ODD = {-1, 8, 9, 255, 256, MIN, MAX};
    private static final int BASE_2 = 2 + 16 * 8;

    public static void main(String[] args) {
        plainCounts();
        plainOps();
        plainForms();
        plainRegisters();
        plainMemory();
        plainShifts();
        plainNotLookedAt();
        plainAt120();
        plainRefusedChangesNothing();
        flowCounts();
        flowLabels();
        flowJumpsAndCalls();
        flowConditions();
        flowServices();
        flowRegisters();
        flowReturn();
        flowAddress();
        flowSorts();
        flowAt120();
        flowRefusedChangesNothing();
        clearTellsHowMany();
        clearLeavesNothingOfIt();
        clearLeavesTheRest();
        buildOfAnEmptyDraft();
        buildMakesBoth();
        buildIsNotChangedLater();
        buildKeepsTheDraft();
        buildForgetsRuns();
        buildWithFaultKeepsAll();
        buildLeavesTheTape();
        DUE.end();
    }

    private static boolean takes(int op, int form, int r, int x, int d, int i) {
        return new House().plain(op, form, r, x, d, i) == 1;
    }

    private static boolean flows(int sort, int a, int b) {
        return new House().flow(sort, a, b) == 1;
    }

    private static void plainCounts() {
        DUE.sentence("6", "An ITEM more .. how many there are");
        House h = new House();
        for (int k = 1; k <= 120; k++) {
            DUE.is("ITEM " + k, h.plain(17, 1, 0, 0, 0, 0), k);
        }
        h.clear();
        DUE.is("from 1 on again", h.plain(17, 1, 0, 0, 0, 0), 1);
        h.build();
        DUE.is("build leaves them", h.plain(17, 1, 0, 0, 0, 0), 2);
    }

    private static void plainOps() {
        DUE.sentence("6", "an INSTRUCTION with OP 0 .. 22");
        DUE.is("OP 0", takes(0, 5, 0, 0, 0, 0), true);
        DUE.is("OP 22", takes(22, 0, 0, 0, 0, 0), true);
        for (int op : new int[] {-1, 23, 24, 25, 26, 27, 28, 29, 100, MIN, MAX}) {
            for (int form = 0; form <= 8; form++) {
                DUE.is("OP " + op + " FORM " + form, takes(op, form, 0, 0, 0, 0), false);
            }
        }
    }

    private static void plainForms() {
        DUE.sentence("6", "NONE .. if .. it has not such a FORM");
        String[] forms = {"23456", "23456", "23456", "23456", "23456", "23456", "23456", "23456", "23456", "24", "3", "23", "17", "17",
            "56", "56", "56", "1", "1", "18", "1", "0", "0"};
        for (int op = 0; op <= 22; op++) {
            for (int form : new int[] {-1, 0, 1, 2, 3, 4, 5, 6, 7, 8, 9, 32, 37, MIN, MAX}) {
                boolean has = form >= 0 && form <= 8 && forms[op].indexOf('0' + form) >= 0;
                DUE.is("OP " + op + " FORM " + form, new House().plain(op, form, 1, 1, 1, 1), has ? 1 : -1);
            }
        }
    }

    private static void plainRegisters() {
        DUE.sentence("6", "NONE .. if .. a number is none such");
        int[][] opForms = {{12, 1}, {13, 1}, {17, 1}, {18, 1}, {19, 1}, {20, 1}, {0, 2}, {7, 2}, {8, 2}, {9, 2}, {11, 2},
            {0, 3}, {8, 3}, {10, 3}, {11, 3}, {0, 4}, {8, 4}, {9, 4}, {0, 5}, {8, 5}, {14, 5}, {16, 5}};
        for (int[] one : opForms) {
            for (int r : ODD) {
                DUE.is("OP " + one[0] + " FORM " + one[1] + " R " + r, takes(one[0], one[1], r, 0, 0, 0), false);
            }
            DUE.is("R 0", takes(one[0], one[1], 0, 0, 0, 0), true);
            DUE.is("R 7", takes(one[0], one[1], 7, 0, 0, 0), true);
            DUE.is("R 4", takes(one[0], one[1], 4, 0, 0, 0), true);
        }
        for (int op : new int[] {0, 1, 2, 3, 4, 5, 6, 7, 8, 9, 11}) {
            for (int x : ODD) {
                DUE.is("OP " + op + " register X " + x, takes(op, 2, 0, x, 0, 0), false);
            }
            DUE.is("register X 0", takes(op, 2, 0, 0, 0, 0), true);
            DUE.is("register X 7", takes(op, 2, 0, 7, 0, 0), true);
            DUE.is("X 16 is no register", takes(op, 2, 0, 16, 0, 0), false);
        }
    }

    private static void plainMemory() {
        DUE.sentence("Terms", "the base B 0 .. 8, the index J 0 .. 8 but not 4 (8: none of it), K 0 .. 3 (0 if J is 8); D an int");
        int[][] opForms = {{0, 3}, {10, 3}, {11, 3}, {5, 4}, {9, 4}, {8, 6}, {14, 6}, {12, 7}};
        for (int[] one : opForms) {
            for (int k = 0; k <= 4; k++) {
                for (int j = 0; j <= 15; j++) {
                    for (int b = 0; b <= 15; b++) {
                        boolean is = b <= 8 && j <= 8 && j != 4 && k <= 3 && (j != 8 || k == 0);
                        DUE.is("B " + b + " J " + j + " K " + k, takes(one[0], one[1], 0, b + 16 * j + 256 * k, 0, 0), is);
                    }
                }
            }
            for (int x : new int[] {-1, -120, -256, -1024, MIN, MIN + 136, 1024, 4096 + 136, 1 << 20, MAX}) {
                DUE.is("X " + x, takes(one[0], one[1], 0, x, 0, 0), false);
            }
            for (int d : new int[] {MIN, -129, 0, 1024, MAX}) {
                DUE.is("D " + d, takes(one[0], one[1], 0, BASE_2, d, 0), true);
            }
        }
    }

    private static void plainShifts() {
        DUE.sentence("6", "(I of SHL, SHR, SAR: 0 .. 255)");
        for (int op = 14; op <= 16; op++) {
            for (int form = 5; form <= 6; form++) {
                for (int i : new int[] {0, 1, 31, 32, 127, 128, 254, 255}) {
                    DUE.is("OP " + op + " FORM " + form + " by " + i, takes(op, form, 0, BASE_2, 0, i), true);
                }
                for (int i : new int[] {-1, -128, 256, 257, MIN, MAX}) {
                    DUE.is("OP " + op + " FORM " + form + " by " + i, takes(op, form, 0, BASE_2, 0, i), false);
                }
            }
        }
        for (int i : new int[] {MIN, -1, 256, MAX}) {
            DUE.is("any I of ADD", takes(0, 5, 0, 0, 0, i), true);
            DUE.is("any I of CMP", takes(7, 6, 0, BASE_2, 0, i), true);
            DUE.is("any I of MOV", takes(8, 5, 0, 0, 0, i), true);
            DUE.is("any I of PUSH", takes(19, 8, 0, 0, 0, i), true);
        }
    }

    /** What is not looked at is neither in the BYTES nor in what a WALK does. */
    private static void plainNotLookedAt() {
        DUE.sentence("6", "(numbers that its FORM doesn't have are not looked at)");
        int[][] plains = {{21, 0, -9, -9, -9, -9}, {22, 0, 99, 999, 9, 999}, {12, 1, 7, -1, 9, 999}, {19, 1, 7, 1024, 9, MIN}, {0, 2, 7, 7, MAX, MAX},
            {0, 3, 7, 136, 9, MIN}, {10, 3, 7, 136, 9, 999}, {0, 4, 7, 136, 9, MAX}, {0, 5, 7, -1, MIN, 9}, {14, 5, 7, 64, MAX, 9}, {8, 5, 7, MIN, MAX, 9},
            {0, 6, -1, 136, 9, 9}, {15, 6, 8, 136, 9, 9}, {12, 7, -1, 136, 9, MIN}, {13, 7, MAX, 136, 9, MAX}, {19, 8, -1, -1, 9, 9}, {19, 8, 8, MAX, MIN, 9}};
        for (int[] p : plains) {
            House odd = new House();
            String what = "OP " + p[0] + " FORM " + p[1];
            DUE.is(what, odd.plain(p[0], p[1], p[2], p[3], p[4], p[5]), 1);
            boolean hasR = p[1] >= 1 && p[1] <= 5;
            boolean hasMemory = p[1] == 3 || p[1] == 4 || p[1] == 6 || p[1] == 7;
            boolean hasI = p[1] == 5 || p[1] == 6 || p[1] == 8;
            House even = new House();
            even.plain(p[0], p[1], hasR ? p[2] : 0, hasMemory || p[1] == 2 ? p[3] : 0, hasMemory ? p[4] : 0, hasI ? p[5] : 0);
            odd.set(0, 4, 100);
            even.set(0, 4, 100);
            odd.build();
            even.build();
            for (int k = 0; k < 16; k++) {
                DUE.is(what + ": BYTE " + k, odd.code(k), even.code(k));
            }
            DUE.is(what + ": walk", odd.walk(9), even.walk(9));
            for (int k = 0; k < 18; k++) {
                DUE.is(what + ": state " + k, odd.state(true, k), even.state(true, k));
            }
        }
    }

    private static House full() {
        House h = new House();
        h.nops(120);
        return h;
    }

    private static void plainAt120() {
        DUE.sentence("6", "NONE, and nothing happens, if there are 120");
        House h = new House();
        h.nops(119);
        DUE.is("the last one", h.plain(17, 1, 0, 0, 0, 0), 120);
        DUE.is("one more", h.plain(17, 1, 0, 0, 0, 0), -1);
        DUE.is("and again", h.plain(18, 1, 0, 0, 0, 0), -1);
        DUE.is("build", h.build(), 0);
        DUE.is("ITEMS", h.place(2, 0), 120);
        DUE.is("the last one's BYTE", h.code(119), 64);
        DUE.is("HALT behind it", h.code(120), 244);
        DUE.is("clear", h.clear(), 120);
        DUE.is("there is room again", h.plain(17, 1, 0, 0, 0, 0), 1);
    }

    private static void plainRefusedChangesNothing() {
        DUE.sentence("6", "NONE, and nothing happens");
        House h = new House();
        h.plain(17, 1, 5, 0, 0, 0);
        h.plain(23, 0, 0, 0, 0, 0);
        h.plain(0, 1, 0, 0, 0, 0);
        h.plain(0, 5, 8, 0, 0, 0);
        h.plain(14, 5, 0, 0, 0, 256);
        DUE.is("the next one is the second", h.plain(18, 1, 6, 0, 0, 0), 2);
        h.plain(0, 3, 0, 64, 0, 0);
        DUE.is("build", h.build(), 0);
        DUE.is("ITEMS", h.place(2, 0), 2);
        DUE.is("BYTE 0", h.code(0), 69);
        DUE.is("BYTE 1", h.code(1), 78);
        DUE.is("BYTE 2", h.code(2), 244);
    }

    private static void flowCounts() {
        DUE.sentence("7", "An ITEM more .. how many there are");
        House h = new House();
        for (int k = 1; k <= 40; k++) {
            DUE.is("LABEL " + k, h.flow(0, k - 1, k % 2), k);
        }
        DUE.is("plain counts, too", h.plain(21, 0, 0, 0, 0, 0), 41);
        DUE.is("and flow behind it", h.flow(7, 0, 0), 42);
        DUE.is("a LABEL that is told twice counts", h.flow(0, 0, 0), 43);
        DUE.is("a LABEL that is told nowhere counts", new House().flow(1, 39, 0), 1);
    }

    private static void flowLabels() {
        DUE.sentence("7", "sort 0 LABEL a (b 1: MARKED, 0: not)");
        for (int b = 0; b <= 1; b++) {
            for (int a : new int[] {0, 1, 38, 39}) {
                DUE.is("LABEL " + a, flows(0, a, b), true);
            }
            for (int a : new int[] {-1, 40, 41, MIN, MAX}) {
                DUE.is("LABEL " + a, flows(0, a, b), false);
            }
        }
        for (int b : new int[] {-1, 2, 3, 256, MIN, MAX}) {
            DUE.is("b " + b, flows(0, 0, b), false);
        }
        House h = new House();
        h.plain(21, 0, 0, 0, 0, 0);
        h.flow(0, 0, 0);
        h.flow(0, 1, 1);
        h.build();
        DUE.is("b 0 is not MARKED", h.place(1, 0), 1);
        DUE.is("b 1 is MARKED", h.place(1, 1), 16);
    }

    private static void flowJumpsAndCalls() {
        DUE.sentence("7", "1 JUMP to LABEL a .. 3 CALL of it .. (numbers that are not told are not looked at)");
        for (int sort : new int[] {1, 3}) {
            for (int b : new int[] {0, -1, 99, MIN, MAX}) {
                DUE.is("LABEL 0, b " + b, flows(sort, 0, b), true);
                DUE.is("LABEL 39, b " + b, flows(sort, 39, b), true);
                DUE.is("LABEL -1, b " + b, flows(sort, -1, b), false);
                DUE.is("LABEL 40, b " + b, flows(sort, 40, b), false);
                DUE.is("LABEL MIN, b " + b, flows(sort, MIN, b), false);
                DUE.is("LABEL MAX, b " + b, flows(sort, MAX, b), false);
            }
        }
    }

    private static void flowConditions() {
        DUE.sentence("7", "2 BRANCH to it if b (a c)");
        for (int b = -2; b <= 18; b++) {
            boolean is = b >= 0 && b <= 15 && b != 10 && b != 11;
            DUE.is("c " + b, flows(2, 0, b), is);
            DUE.is("c " + b + ", LABEL 39", flows(2, 39, b), is);
            DUE.is("c " + b + ", LABEL 40", flows(2, 40, b), false);
            DUE.is("c " + b + ", LABEL -1", flows(2, -1, b), false);
        }
        DUE.is("c MIN", flows(2, 0, MIN), false);
        DUE.is("c MAX", flows(2, 0, MAX), false);
    }

    private static void flowServices() {
        DUE.sentence("7", "4 SERVICE at 16 * a");
        for (int a = 0; a <= 3; a++) {
            DUE.is("SERVICE " + a, flows(4, a, -77), true);
        }
        for (int a : new int[] {-1, 4, 5, 16, 48, 1 << 28, MIN, MAX}) {
            DUE.is("SERVICE " + a, flows(4, a, 0), false);
        }
    }

    private static void flowRegisters() {
        DUE.sentence("7", "5 GO to register a, 6 GOSUB to it (both not 4)");
        for (int sort = 5; sort <= 6; sort++) {
            for (int a = -2; a <= 10; a++) {
                DUE.is("sort " + sort + " register " + a, flows(sort, a, MAX), a >= 0 && a <= 7 && a != 4);
            }
            DUE.is("register MIN", flows(sort, MIN, 0), false);
            DUE.is("register MAX", flows(sort, MAX, 0), false);
        }
    }

    private static void flowReturn() {
        DUE.sentence("7", "7 RETURN .. (numbers that are not told are not looked at)");
        for (int a : new int[] {0, 4, -1, 99, MIN, MAX}) {
            DUE.is("RETURN with " + a, flows(7, a, -a), true);
        }
        House h = new House();
        h.flow(7, 39, 4);
        DUE.is("it names no LABEL", h.build(), 0);
        DUE.is("POP 1", h.code(0), 89);
    }

    private static void flowAddress() {
        DUE.sentence("7", "8 ADDRESS of LABEL a to register b");
        for (int b = -2; b <= 10; b++) {
            boolean is = b >= 0 && b <= 7;
            DUE.is("register " + b, flows(8, 0, b), is);
            DUE.is("register " + b + ", LABEL 39", flows(8, 39, b), is);
            DUE.is("register " + b + ", LABEL 40", flows(8, 40, b), false);
            DUE.is("register " + b + ", LABEL -1", flows(8, -1, b), false);
        }
        DUE.is("register MIN", flows(8, 0, MIN), false);
        DUE.is("register MAX", flows(8, 0, MAX), false);
    }

    private static void flowSorts() {
        DUE.sentence("7", "NONE likewise (no such sort)");
        for (int sort : new int[] {-1, -2, 9, 10, 16, MIN, MAX}) {
            for (int a = 0; a < 3; a++) {
                DUE.is("sort " + sort, new House().flow(sort, a, 0), -1);
            }
        }
    }

    private static void flowAt120() {
        DUE.sentence("7", "NONE likewise (there are 120)");
        for (int sort = 0; sort <= 8; sort++) {
            House h = full();
            DUE.is("sort " + sort, h.flow(sort, 1, 1), -1);
            DUE.is("nothing happened", h.build(), 0);
            DUE.is("ITEMS", h.clear(), 120);
            DUE.is("there is room again", h.flow(sort, 1, 1), 1);
        }
        House h = new House();
        h.nops(119);
        DUE.is("the last one", h.flow(7, 0, 0), 120);
        DUE.is("no INSTRUCTION more", h.plain(21, 0, 0, 0, 0, 0), -1);
    }

    private static void flowRefusedChangesNothing() {
        DUE.sentence("7", "NONE likewise (and nothing happens)");
        House h = new House();
        h.flow(0, 3, 1);
        h.flow(0, 40, 1);
        h.flow(0, 4, 2);
        h.flow(2, 3, 10);
        h.flow(5, 4, 0);
        h.flow(9, 0, 0);
        DUE.is("the next one is the second", h.flow(1, 3, 0), 2);
        DUE.is("build", h.build(), 0);
        DUE.is("ITEMS", h.place(2, 0), 2);
        DUE.is("no LABEL 4", h.place(1, 4), -1);
        DUE.is("JUMP", h.code(0), 235);
        DUE.is("HALT", h.code(2), 244);
    }

    private static void clearTellsHowMany() {
        DUE.sentence("8", "THE DRAFT is empty: how many ITEMS it had");
        House h = new House();
        DUE.is("of none", h.clear(), 0);
        h.flow(0, 0, 0);
        DUE.is("of one", h.clear(), 1);
        DUE.is("it is empty", h.clear(), 0);
        h.nops(120);
        DUE.is("of 120", h.clear(), 120);
        DUE.is("it is empty", h.clear(), 0);
        DUE.is("build", h.build(), 0);
        DUE.is("ITEMS", h.place(2, 0), 0);
        DUE.is("size", h.size(), 16);
        h.flow(0, 5, 0);
        h.clear();
        h.flow(0, 5, 1);
        DUE.is("its LABELS are gone", h.build(), 0);
        h.clear();
        h.flow(1, 5, 0);
        DUE.is("told nowhere", h.build(), 2);
    }

    /** What was built ahead of clear() leaves no trace in what is built behind it. */
    private static void clearLeavesNothingOfIt() {
        DUE.sentence("8", "THE DRAFT is empty");
        int[][] flows = {{0, 0, 0}, {7, 0, 0}, {0, 1, 1}, {1, 0, 0}, {2, 1, 4}, {5, 6, 0}, {8, 1, 7}, {4, 3, 0}, {3, 0, 0}, {6, 2, 0}};
        for (int shift = 0; shift < flows.length; shift++) {
            House again = new House();
            // Eleven BYTES each, and more of them than there will be ITEMS.
            for (int k = 0; k < 40; k++) {
                again.plain(7, 6, 0, 7 + 16 * 7, 200, 400);
            }
            again.build();
            again.clear();
            House fresh = new House();
            for (int k = 0; k < flows.length; k++) {
                int[] one = flows[(k + shift) % flows.length];
                again.flow(one[0], one[1], one[2]);
                fresh.flow(one[0], one[1], one[2]);
            }
            DUE.is("build", again.build(), fresh.build());
            DUE.is("size", again.size(), fresh.size());
            for (int k = 0; k < fresh.size() && fresh.callsLeft() > 20; k++) {
                DUE.is("BYTE " + k, again.code(k), fresh.code(k));
            }
            for (int k = 0; k <= flows.length; k++) {
                DUE.is("ITEM " + k, again.place(0, k), fresh.place(0, k));
            }
        }
        House fewer = new House();
        for (int k = 0; k < 15; k++) {
            fewer.plain(17, 1, 0, 0, 0, 0);
        }
        fewer.build();
        fewer.clear();
        fewer.nops(1);
        fewer.build();
        for (int k = 1; k < 16; k++) {
            DUE.is("HALTS behind fewer ITEMS", fewer.code(k), 244);
        }
    }

    private static void clearLeavesTheRest() {
        DUE.sentence("8", "THE DRAFT is empty");
        House h = new House();
        h.set(0, 3, 8);
        h.flow(0, 5, 0);
        h.plain(17, 1, 3, 0, 0, 0);
        h.build();
        h.run(9);
        h.walk(9);
        h.feed(0x90909090, 0x90909090, 0x90909090, 0x90909090, 0);
        h.flow(0, 5, 0);
        h.build();
        h.clear();
        DUE.is("fault(0)", h.fault(0), 1);
        DUE.is("fault(1)", h.fault(1), 2);
        DUE.is("ITEMS of the PROGRAM", h.place(2, 0), 2);
        DUE.is("its LABEL", h.place(1, 5), 0);
        DUE.is("CODE", h.code(0), 67);
        DUE.is("RUN", h.state(false, 3), 9);
        DUE.is("WALK", h.state(true, 3), 9);
        DUE.is("walk again", h.walk(9), 1);
        DUE.is("with what set() told", h.state(true, 3), 9);
        DUE.is("TAPE", h.end(20), true);
    }

    private static void buildOfAnEmptyDraft() {
        DUE.sentence("9", "THE DRAFT is built: 0");
        House h = new House();
        DUE.is("build", h.build(), 0);
        DUE.is("size", h.size(), 16);
        DUE.is("ITEMS", h.place(2, 0), 0);
        DUE.is("no ITEM", h.place(0, 0), -1);
        DUE.is("run", h.run(1), 1);
        DUE.is("walk", h.walk(1), 1);
        DUE.is("it is at the HALT behind all", h.state(true, 12), 256);
    }

    private static void buildMakesBoth() {
        DUE.sentence("9", "0, and it is THE CODE and THE PROGRAM");
        House h = House.holding(House.filled(32, 144));
        h.flow(0, 9, 0);
        h.plain(17, 1, 2, 0, 0, 0);
        DUE.is("not before it is built", h.size(), 32);
        DUE.is("build", h.build(), 0);
        DUE.is("size", h.size(), 16);
        DUE.is("BYTE", h.code(0), 66);
        DUE.is("no BYTE of the old one", h.code(16), -1);
        DUE.is("a START", h.decoded(15, 7), 1);
        DUE.is("LABEL", h.place(1, 9), 0);
        DUE.is("walk", h.walk(9), 1);
        DUE.is("run", h.run(9), 1);
    }

    private static void buildIsNotChangedLater() {
        DUE.sentence("9", "(what comes to the DRAFT later changes neither)");
        House h = new House();
        h.flow(0, 1, 0);
        h.plain(17, 1, 3, 0, 0, 0);
        h.build();
        h.plain(17, 1, 3, 0, 0, 0);
        h.flow(0, 2, 0);
        DUE.is("ITEMS", h.place(2, 0), 2);
        DUE.is("ITEM 2", h.place(0, 2), -1);
        DUE.is("LABEL 2", h.place(1, 2), -1);
        DUE.is("BYTE 1", h.code(1), 244);
        h.walk(9);
        DUE.is("WALK", h.state(true, 3), 1);
        h.run(9);
        DUE.is("RUN", h.state(false, 3), 1);
        h.clear();
        h.plain(8, 5, 3, 0, 0, 50);
        h.plain(8, 5, 3, 0, 0, 51);
        h.flow(0, 3, 1);
        h.walk(9);
        DUE.is("WALK of the old one still", h.state(true, 3), 1);
        DUE.is("LABEL 1 still", h.place(1, 1), 0);
        DUE.is("ITEM 1 still", h.place(0, 1), 0);
        h.flow(1, 30, 0);
        DUE.is("build with a FAULT", h.build(), 2);
        h.walk(9);
        DUE.is("WALK of the old one even then", h.state(true, 3), 1);
        DUE.is("LABEL 3 is not of it", h.place(1, 3), -1);
        DUE.is("where it is", h.state(true, 12), 257);
    }

    private static void buildKeepsTheDraft() {
        DUE.sentence("9", "THE DRAFT is built");
        House h = new House();
        h.plain(17, 1, 3, 0, 0, 0);
        h.build();
        DUE.is("one more", h.plain(18, 1, 3, 0, 0, 0), 2);
        DUE.is("built again", h.build(), 0);
        DUE.is("both", h.place(2, 0), 2);
        DUE.is("BYTE 0", h.code(0), 67);
        DUE.is("BYTE 1", h.code(1), 75);
        h.flow(1, 0, 0);
        DUE.is("a FAULT", h.build(), 2);
        DUE.is("leaves it, too", h.flow(0, 0, 0), 4);
        DUE.is("and it can be mended", h.build(), 0);
        DUE.is("clear", h.clear(), 4);
    }

    private static void buildForgetsRuns() {
        DUE.sentence("17", "Of the latest RUN (walk false) or WALK of this CODE");
        House h = new House();
        h.set(0, 4, 100);
        h.flow(4, 1, 0);
        h.build();
        h.run(50);
        h.walk(50);
        h.plain(21, 0, 0, 0, 0, 0);
        DUE.is("till then they are told", h.state(false, 15), 1);
        h.build();
        for (int k = 0; k < 2; k++) {
            boolean walk = k == 1;
            DUE.refuses("state", "NoSuchElementException", () -> h.state(walk, 14));
            DUE.refuses("output", "NoSuchElementException", () -> h.output(walk, 0));
            DUE.is("data", h.data(walk, 0), -1);
        }
        h.walk(1);
        DUE.is("a WALK of the new one", h.state(true, 14), 0);
        DUE.refuses("but no RUN", "NoSuchElementException", () -> h.state(false, 14));
    }

    private static void buildWithFaultKeepsAll() {
        DUE.sentence("9", "else its FAULT (what there is stays)");
        for (int fault = 1; fault <= 4; fault++) {
            House h = new House();
            h.set(0, 3, 8);
            h.flow(0, 5, 1);
            h.plain(17, 1, 3, 0, 0, 0);
            h.flow(8, 5, 2);
            h.build();
            h.run(9);
            h.walk(9);
            h.clear();
            for (int k = 0; k < 64; k++) {
                h.flow(4, 0, 0);
            }
            h.flow(0, 6, 0);
            if (fault != 4) {
                h.flow(new int[] {0, 1, 8}[fault - 1], fault == 2 ? 7 : 6, 0);
            }
            DUE.is("build", h.build(), fault);
            DUE.is("its ITEM", h.fault(1), fault == 4 ? -1 : 65);
            DUE.is("size", h.size(), 16);
            DUE.is("BYTE", h.code(0), 67);
            DUE.is("START", h.decoded(1, 7), 1);
            DUE.is("no START", h.decoded(3, 7), 0);
            DUE.is("ITEMS", h.place(2, 0), 3);
            DUE.is("ITEM", h.place(0, 2), 1);
            DUE.is("LABEL", h.place(1, 5), 0);
            DUE.is("no LABEL of the DRAFT", h.place(1, 6), -1);
            DUE.is("RUN", h.state(false, 3), 9);
            DUE.is("WALK", h.state(true, 2), 256);
            DUE.is("DATA", h.data(true, 0), 0);
            DUE.is("walk again", h.walk(9), 1);
            DUE.is("it gives", h.state(true, 2), 256);
            DUE.is("run again", h.run(9), 1);
        }
        House none = new House();
        none.flow(1, 0, 0);
        DUE.is("build", none.build(), 2);
        DUE.is("there is no CODE still", none.size(), 0);
        DUE.is("nor a PROGRAM", none.place(2, 0), -1);
        DUE.refuses("walk", "IllegalStateException", () -> none.walk(1));
        House checked = House.holding(144, 244);
        checked.flow(1, 0, 0);
        checked.build();
        DUE.is("the CODE that was checked stays", checked.code(0), 144);
        DUE.refuses("and is no PROGRAM", "IllegalStateException", () -> checked.walk(1));
    }

    private static void buildLeavesTheTape() {
        DUE.sentence("9", "THE DRAFT is built");
        House h = new House();
        h.feed(0x40909090, 0x90909090, 0x90909090, 0x90909090, 0);
        h.end(16);
        h.build();
        DUE.is("the TAPE", h.end(16), true);
        DUE.is("check", h.check(), 0);
        DUE.is("its BYTE", h.code(0), 0x40);
    }
}
