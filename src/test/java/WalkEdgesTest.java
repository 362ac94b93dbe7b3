/** Promise 16, 17 of a WALK, and what IV tells of WALKS, sentence by sentence: each boundary case has a test of its own. */
final class WalkEdgesTest {
    private static final Due DUE = new Due();
    private static final int MIN = Integer.MIN_VALUE;
    private static final int MAX = Integer.MAX_VALUE;
    private static final int DIRECT = 136;
    private static final int NO = 8;
    private static final int UNKNOWN = 7;
    private static final int LOST = 9;
    private static final int[] CONDITIONS = {0, 1, 2, 3, 4, 5, 6, 7, 8, 9, 12, 13, 14, 15};

    public static void main(String[] args) {
        walkWithoutProgram();
        walkFuel();
        walkRefusedChangesNothing();
        walkFromTheFirst();
        labelsAreNoSteps();
        serviceIsTwoSteps();
        haltBehindAll();
        whereItIs();
        notAtAStart();
        landsAtMarked();
        landsAtServices();
        landsBehindCalls();
        lostElsewhere();
        lostWithoutBitsOff();
        lostChangesNothing();
        lostOfServices();
        exitPopsNothing();
        flagsBehindGo();
        registerBehindReturn();
        registerBecomesNew();
        returnReadsNothing();
        unknownAsBaseOrIndex();
        unknownAsRightOrLeft();
        unknownNotLookedAt();
        unknownInGoAndPush();
        unknownCarry();
        unknownConditions();
        whatLeavesUnknown();
        unknownChangesNothing();
        unknownAheadOfData();
        unknownAheadOfLost();
        lostAheadOfData();
        lostAheadOfFull();
        dataAheadOfFull();
        lostOnlyWithAWord();
        fuelAheadOfAll();
        stateOfUnknown();
        DUE.end();
    }

    private static void walkWithoutProgram() {
        DUE.sentence("16", "IllegalStateException: there is no PROGRAM");
        House h = new House();
        DUE.refuses("new", "IllegalStateException", () -> h.walk(1));
        h.nops(1);
        DUE.refuses("a DRAFT is none", "IllegalStateException", () -> h.walk(5000));
        h.flow(1, 0, 0);
        h.build();
        DUE.refuses("a FAULT makes none", "IllegalStateException", () -> h.walk(1));
        h.clear();
        h.build();
        DUE.is("then there is one", h.walk(1), 1);
        h.tape(House.filled(16, 244));
        h.check();
        DUE.refuses("a CODE that was checked is none", "IllegalStateException", () -> h.walk(1));
        DUE.is("though it is a CODE", h.run(1), 1);
    }

    private static void walkFuel() {
        DUE.sentence("16", "likewise (IllegalArgumentException: fuel is not 1 .. 5000)");
        House h = new House();
        h.flow(0, 0, 0);
        h.flow(1, 0, 0);
        h.build();
        for (int fuel : new int[] {0, -1, -5000, 5001, 5002, 10000, MIN, MAX}) {
            DUE.refuses("fuel " + fuel, "IllegalArgumentException", () -> h.walk(fuel));
        }
        for (int fuel : new int[] {1, 2, 4999, 5000}) {
            DUE.is("fuel " + fuel, h.walk(fuel), 0);
            DUE.is("STEPS", h.state(true, 13), fuel);
        }
    }

    private static void walkRefusedChangesNothing() {
        DUE.sentence("Terms", "What is refused or throws changes nothing but what is told");
        House h = new House();
        h.plain(17, 1, 3, 0, 0, 0);
        h.plain(17, 1, 3, 0, 0, 0);
        h.build();
        h.walk(1);
        h.run(2);
        DUE.refuses("walk(0)", "IllegalArgumentException", () -> h.walk(0));
        DUE.refuses("walk(5001)", "IllegalArgumentException", () -> h.walk(5001));
        DUE.is("register 3", h.state(true, 3), 1);
        DUE.is("STEPS", h.state(true, 13), 1);
        DUE.is("STOP", h.state(true, 14), 0);
        DUE.is("the RUN", h.state(false, 3), 2);
    }

    private static void walkFromTheFirst() {
        DUE.sentence("16", "A WALK of THE PROGRAM from its first ITEM on, likewise");
        House h = new House();
        h.set(0, 4, 500);
        h.set(0, 3, 5);
        h.set(1, 40, 6);
        h.set(2, 0, 8);
        h.flow(2, 0, 0);
        h.flow(2, 0, 2);
        h.flow(2, 0, 4);
        h.flow(2, 0, 8);
        h.plain(17, 1, 3, 0, 0, 0);
        h.plain(0, 3, 3, DIRECT, 40, 0);
        h.flow(4, 1, 0);
        h.flow(4, 2, 0);
        h.flow(0, 0, 0);
        h.flow(8, 1, 2);
        h.flow(6, 2, 0);
        h.flow(0, 1, 1);
        h.build();
        for (int turn = 0; turn < 3; turn++) {
            DUE.is("walk", h.walk(99), 1);
            DUE.is("with what set() told, FLAGS off: register 3", h.state(true, 3), 12);
            DUE.is("INPUT from its first number on", h.state(true, 0), 8);
            DUE.is("no OUTPUT to begin with", h.state(true, 15), 1);
            DUE.is("register 1 is known", h.state(true, 17), 0);
            DUE.is("FLAGS are UNKNOWN at the end", h.state(true, 8), 2);
        }
    }

    private static void labelsAreNoSteps() {
        DUE.sentence("IV", "(LABELS are passed without a STEP)");
        House h = new House();
        for (int label = 0; label < 39; label++) {
            h.flow(0, label, label % 2);
        }
        h.plain(17, 1, 0, 0, 0, 0);
        h.flow(0, 39, 0);
        h.build();
        DUE.is("FUEL", h.walk(1), 0);
        DUE.is("INC is done", h.state(true, 0), 1);
        DUE.is("it is at the HALT", h.state(true, 12), 257);
        DUE.is("HALT", h.walk(2), 1);
        DUE.is("STEPS", h.state(true, 13), 2);
    }

    private static void serviceIsTwoSteps() {
        DUE.sentence("IV", "A SERVICE is two STEPS (its CALL, then what II tells)");
        for (int a = 0; a <= 3; a++) {
            House h = new House();
            h.set(0, 4, 100);
            h.set(0, 0, 9);
            h.set(0, 3, 4);
            h.flow(4, a, 0);
            h.build();
            DUE.is("FUEL 1", h.walk(1), 0);
            DUE.is("it is at the SERVICE", h.state(true, 12), 16 * a);
            DUE.is("the STACK'S", h.state(true, 4), 96);
            DUE.is("the address behind its CALL", h.word(true, 96), 272);
            DUE.is("nothing of it is done yet", h.state(true, 15) + h.state(true, 0), 9);
            DUE.is("FUEL 2", h.walk(2), a == 0 ? 2 : 0);
            DUE.is("STEPS", h.state(true, 13), 2);
            DUE.is("it is at", h.state(true, 12), a == 0 ? 0 : 272);
            DUE.is("the STACK'S", h.state(true, 4), a == 0 ? 96 : 100);
            DUE.is("OUTPUT", h.state(true, 15), a == 1 ? 1 : 0);
            DUE.is("register 0", h.state(true, 0), a >= 2 ? 0 : 9);
        }
    }

    private static void haltBehindAll() {
        DUE.sentence("IV", "Behind the last ITEM there is a HALT");
        House none = new House();
        none.build();
        DUE.is("of no ITEM", none.walk(1), 1);
        DUE.is("STEPS", none.state(true, 13), 1);
        DUE.is("it is at", none.state(true, 12), 256);
        House h = new House();
        h.nops(119);
        h.plain(17, 1, 3, 0, 0, 0);
        h.build();
        DUE.is("of 120", h.walk(5000), 1);
        DUE.is("STEPS", h.state(true, 13), 121);
        DUE.is("it is at", h.state(true, 12), 256 + 120);
        House last = new House();
        last.set(0, 4, 100);
        last.flow(4, 3, 0);
        last.build();
        DUE.is("behind a SERVICE", last.walk(9), 1);
        DUE.is("it is at", last.state(true, 12), 272);
        House labels = new House();
        labels.nops(1);
        labels.flow(1, 0, 0);
        labels.flow(0, 0, 1);
        labels.build();
        DUE.is("by a JUMP to a LABEL at the end", labels.walk(9), 1);
        DUE.is("it is at", labels.state(true, 12), 272);
    }

    private static void whereItIs() {
        DUE.sentence("17", "12: .. (of a WALK 256 + the place of the ITEM that comes next, which is no LABEL, or of the HALT behind all, or a SERVICE)");
        House h = new House();
        h.set(0, 4, 100);
        h.flow(0, 0, 0);
        h.nops(1);
        h.flow(0, 1, 0);
        h.flow(0, 2, 0);
        h.flow(4, 3, 0);
        h.flow(1, 3, 0);
        h.flow(0, 3, 1);
        h.plain(8, 5, 0, 0, 0, 0);
        h.flow(0, 4, 0);
        h.build();
        int[] at = {256 + 11, 48, 256 + 16, 256 + 32, 256 + 37, 256 + 37};
        for (int fuel = 1; fuel <= at.length; fuel++) {
            h.walk(fuel);
            DUE.is("behind " + fuel + " STEPS", h.state(true, 12), at[fuel - 1]);
        }
        House stands = new House();
        stands.set(0, 4, 0);
        stands.nops(2);
        stands.flow(3, 0, 0);
        stands.flow(0, 0, 0);
        stands.build();
        DUE.is("DATA", stands.walk(9), 3);
        DUE.is("the place of its piece, not of the NOPS ahead", stands.state(true, 12), 256 + 11);
        House back = new House();
        back.set(0, 4, 0);
        back.set(1, 0, 5);
        back.nops(15);
        back.flow(7, 0, 0);
        back.build();
        DUE.is("LOST", back.walk(99), LOST);
        DUE.is("the place of the first piece", back.state(true, 12), 256 + 15);
    }

    private static void notAtAStart() {
        DUE.sentence("17", "16: STEPS in THE CODE that were at no START (a WALK: 0)");
        House h = landing(5);
        h.set(0, 2, 256 + h.place(1, 1));
        h.walk(20);
        DUE.is("WALK", h.state(true, 16), 0);
        h.run(20);
        DUE.is("RUN", h.state(false, 16), 0);
    }

    /** ITEMS: 0 GO, GOSUB or RETURN, 1 LABEL 0, 2 INC 7, 3 MARKED LABEL 1, 4 INC 6, 5 CALL 0, 6 INC 5, 7 COUNT, 8 GOSUB 2, 9 HALT. */
    private static House landing(int sort) {
        House h = new House();
        h.set(0, 4, 200);
        h.flow(sort, 2, 0);
        h.flow(0, 0, 0);
        h.plain(17, 1, 7, 0, 0, 0);
        h.flow(0, 1, 1);
        h.plain(17, 1, 6, 0, 0, 0);
        h.flow(3, 0, 0);
        h.plain(17, 1, 5, 0, 0, 0);
        h.flow(4, 3, 0);
        h.flow(6, 2, 0);
        h.plain(22, 0, 0, 0, 0, 0);
        h.build();
        return h;
    }

    /** One STEP of the first ITEM, to this address. */
    private static House stepTo(int sort, int address) {
        House h = landing(sort);
        h.set(0, 2, address);
        h.set(1, 200, address);
        h.walk(1);
        return h;
    }

    private static void lands(String what, int sort, int address, int next) {
        House h = stepTo(sort, address);
        DUE.is(what + " by sort " + sort, h.state(true, 14), 0);
        DUE.is("STEPS", h.state(true, 13), 1);
        DUE.is("it is at", h.state(true, 12), next);
    }

    private static void landsAtMarked() {
        DUE.sentence("IV", "must be just .. the address of a MARKED LABEL");
        for (int sort = 5; sort <= 7; sort++) {
            House h = landing(sort);
            lands("MARKED", sort, 256 + h.place(1, 1), 256 + h.place(0, 4));
            House not = stepTo(sort, 256 + landing(sort).place(1, 0));
            // Behind a GOSUB LABEL 0 is at an address that is one for another reason.
            DUE.is("not MARKED", not.state(true, 14), sort == 6 ? 0 : LOST);
        }
        House first = new House();
        first.set(0, 2, 256);
        first.flow(0, 0, 1);
        first.flow(5, 2, 0);
        first.build();
        DUE.is("at the very beginning", first.walk(5000), 0);
        House end = new House();
        end.flow(8, 0, 2);
        end.flow(5, 2, 0);
        end.flow(0, 0, 1);
        end.build();
        DUE.is("at the very end", end.walk(9), 1);
        DUE.is("it is at the HALT", end.state(true, 12), 272);
        House plain = new House();
        plain.set(0, 2, 272);
        plain.flow(5, 2, 0);
        plain.nops(11);
        plain.flow(0, 0, 0);
        plain.nops(1);
        plain.build();
        DUE.is("a LABEL at a BUNDLE'S beginning, but not MARKED", plain.walk(9), LOST);
    }

    private static void landsAtServices() {
        DUE.sentence("IV", "must be just .. the address .. of a SERVICE");
        for (int sort = 5; sort <= 7; sort++) {
            for (int address = 0; address <= 48; address += 16) {
                lands("SERVICE " + address, sort, address, address);
            }
            for (int address : new int[] {-16, -1, 1, 4, 15, 17, 47, 49, 64, 80, 240}) {
                DUE.is("none at " + address, stepTo(sort, address).state(true, 14), LOST);
            }
        }
    }

    private static void landsBehindCalls() {
        DUE.sentence("IV", "must be just .. the one behind a CALL, SERVICE or GOSUB");
        for (int sort = 5; sort <= 7; sort++) {
            House h = landing(sort);
            lands("behind a CALL", sort, 256 + h.place(0, 5) + 5, 256 + h.place(0, 6));
            lands("behind a SERVICE", sort, 256 + h.place(0, 7) + 5, 256 + h.place(0, 8));
            lands("behind a GOSUB", sort, 256 + h.place(0, 8) + 5, 256 + h.place(0, 9));
        }
        lands("behind itself", 6, 272, 256 + landing(6).place(0, 2));
    }

    private static void lostElsewhere() {
        DUE.sentence("IV", "else it STOPS with 9 LOST");
        for (int sort = 5; sort <= 7; sort++) {
            House h = landing(sort);
            java.util.Set<Integer> good = new java.util.HashSet<>(java.util.List.of(0, 16, 32, 48, 256 + h.place(1, 1), 256 + h.place(0, 5) + 5,
                256 + h.place(0, 7) + 5, 256 + h.place(0, 8) + 5));
            if (sort == 6) {
                good.add(272);
            }
            for (int address = -40; address <= 256 + 160; address++) {
                if (!good.contains(address)) {
                    h = h.callsLeft() > 10 ? h : landing(sort);
                    h.set(0, 2, address);
                    h.set(1, 200, address);
                    DUE.is("sort " + sort + " to " + address, h.walk(50), LOST);
                    DUE.is("STEPS", h.state(true, 13), 0);
                }
            }
            for (int address : new int[] {1024, 1264, 1280, 4096, MIN, MIN + 256, MAX, MAX - 15, -256}) {
                DUE.is("sort " + sort + " to " + address, stepTo(sort, address).state(true, 14), LOST);
            }
        }
    }

    private static void lostWithoutBitsOff() {
        DUE.sentence("IV", "(no bits being taken off ahead)");
        for (int low = 1; low < 16; low++) {
            for (int sort = 5; sort <= 7; sort++) {
                DUE.is("MARKED and " + low, stepTo(sort, 256 + landing(sort).place(1, 1) + low).state(true, 14), LOST);
                DUE.is("EXIT and " + low, stepTo(sort, low).state(true, 14), LOST);
            }
            House h = landing(5);
            h.set(0, 2, 256 + h.place(1, 1) + low);
            h.run(2);
            DUE.is("but a RUN gets there", h.state(false, 12), 256 + h.place(1, 1));
        }
    }

    private static void lostChangesNothing() {
        DUE.sentence("IV", "9 LOST, without a STEP, nothing being changed");
        for (int sort = 5; sort <= 7; sort++) {
            House h = landing(sort);
            h.set(0, 1, 77);
            h.set(0, 2, 999);
            h.set(1, 200, 999);
            DUE.is("LOST", h.walk(50), LOST);
            int[] want = {0, 77, 999, 0, 200, 0, 0, 0, 0, 0, 0, 0, 256 + h.place(0, 0), 0, LOST, 0, 0, 0};
            for (int what = 0; what < want.length; what++) {
                DUE.is("sort " + sort + ": state " + what, h.state(true, what), want[what]);
            }
            DUE.is("the WORD stays", h.word(true, 200), 999);
            DUE.is("nothing is pushed", h.word(true, 196), 0);
        }
    }

    private static void lostOfServices() {
        DUE.sentence("IV", "and what a SERVICE pops, must be just ..");
        for (int service = 16; service <= 48; service += 16) {
            for (int pops : new int[] {-1, 1, 64, 257, 272 + 1, 999, MIN, MAX}) {
                House h = landing(5);
                h.set(2, 0, 70);
                h.set(0, 0, 5);
                h.set(0, 2, service);
                h.set(1, 200, pops);
                DUE.is("SERVICE " + service + " pops " + pops, h.walk(50), LOST);
                DUE.is("it stands there", h.state(true, 12), service);
                DUE.is("STEPS", h.state(true, 13), 1);
                DUE.is("nothing is changed: register 0", h.state(true, 0), 5);
                DUE.is("nothing is changed: OUTPUT", h.state(true, 15), 0);
                DUE.is("nothing is changed: the STACK'S", h.state(true, 4), 200);
            }
            for (int pops : new int[] {0, 256 + landing(5).place(1, 1), 256 + landing(5).place(0, 5) + 5}) {
                House h = landing(5);
                h.set(0, 2, service);
                h.set(1, 200, pops);
                DUE.is("SERVICE " + service + " pops " + pops, h.walk(2), 0);
                DUE.is("the STACK'S", h.state(true, 4), 204);
            }
        }
    }

    private static void exitPopsNothing() {
        DUE.sentence("II", "behind these three it POPS an address");
        House h = landing(5);
        h.set(0, 2, 0);
        h.set(0, 4, -1);
        DUE.is("EXIT wants no WORD", h.walk(50), 2);
        DUE.is("it stands there", h.state(true, 12), 0);
        DUE.is("STEPS", h.state(true, 13), 2);
        DUE.is("the STACK'S", h.state(true, 4), -1);
    }

    private static void flagsBehindGo() {
        DUE.sentence("IV", "Behind GO, GOSUB, RETURN all FLAGS are UNKNOWN");
        for (int sort = 5; sort <= 7; sort++) {
            House h = stepTo(sort, 256 + landing(sort).place(1, 1));
            for (int f = 8; f <= 11; f++) {
                DUE.is("sort " + sort + ": FLAG " + f, h.state(true, f), 2);
            }
        }
        DUE.sentence("IV", "each a STEP that does what its piece does");
        for (int sort : new int[] {1, 2, 3, 4, 8}) {
            House h = new House();
            h.set(0, 4, 100);
            h.plain(7, 5, 7, 0, 0, 1);
            h.flow(sort, sort == 4 ? 3 : 0, sort == 2 ? 2 : 0);
            h.flow(0, 0, 1);
            h.build();
            DUE.is("walk", h.walk(9), 1);
            int[] want = {1, 0, 1, 0};
            for (int f = 0; f < 4; f++) {
                DUE.is("sort " + sort + " leaves FLAG " + f, h.state(true, 8 + f), want[f]);
            }
        }
    }

    private static void registerBehindReturn() {
        DUE.sentence("IV", "behind RETURN register 1, too");
        for (int sort = 5; sort <= 7; sort++) {
            House h = landing(sort);
            h.set(0, 1, 77);
            h.set(0, 2, 16);
            h.set(1, 200, 16);
            h.walk(1);
            DUE.is("sort " + sort + ": 17", h.state(true, 17), sort == 7 ? 1 : 0);
            DUE.is("sort " + sort + ": register 1", h.state(true, 1), sort == 7 ? 0 : 77);
            DUE.is("the STACK'S", h.state(true, 4), sort == 7 ? 204 : sort == 6 ? 196 : 200);
        }
        House own = new House();
        own.set(0, 1, 48);
        own.set(0, 4, 100);
        own.set(1, 100, 0);
        own.flow(5, 1, 0);
        own.build();
        DUE.is("GO 1", own.walk(9), 2);
        DUE.is("leaves it known", own.state(true, 17), 0);
        DUE.is("as it was", own.state(true, 1), 48);
    }

    /** Behind a CALL of a RETURN, where register 1 and all FLAGS are UNKNOWN; register 2 is 6, the STACK'S 100. */
    private static House behindReturn() {
        House h = new House();
        h.set(0, 4, 100);
        h.set(0, 1, 5);
        h.set(0, 2, 6);
        h.flow(3, 0, 0);
        return h;
    }

    private static House withReturn(House h) {
        h.plain(22, 0, 0, 0, 0, 0);
        h.flow(0, 0, 0);
        h.flow(7, 0, 0);
        DUE.is("build", h.build(), 0);
        return h;
    }

    private static void reads(boolean want, int op, int form, int r, int x, int i) {
        House h = behindReturn();
        h.plain(op, form, r, x, 40, i);
        withReturn(h);
        String what = "OP " + op + " FORM " + form + " of " + r + ", " + x;
        DUE.is(what, h.walk(50), want ? UNKNOWN : 1);
        DUE.is(what + ": STEPS", h.state(true, 13), want ? 2 : 4);
    }

    private static void registerBecomesNew() {
        DUE.sentence("IV", "till it becomes something new");
        int[][] plains = {{8, 5, 1, 0, 0, 9, 9}, {8, 2, 1, 2, 0, 0, 6}, {8, 3, 1, DIRECT, 40, 0, 0}, {10, 3, 1, 2 + 16 * NO, 4, 0, 10}, {20, 1, 1, 0, 0, 0, 0}};
        for (int[] p : plains) {
            House h = behindReturn();
            h.plain(p[0], p[1], p[2], p[3], p[4], p[5]);
            h.plain(8, 2, 7, 1, 0, 0);
            withReturn(h);
            DUE.is("OP " + p[0] + " FORM " + p[1], h.walk(50), 1);
            DUE.is("register 1", h.state(true, 1), p[6]);
            DUE.is("it is read", h.state(true, 7), p[6]);
            DUE.is("17", h.state(true, 17), 0);
        }
        House address = behindReturn();
        address.flow(0, 9, 1);
        address.flow(8, 9, 1);
        address.plain(19, 1, 1, 0, 0, 0);
        withReturn(address);
        DUE.is("ADDRESS", address.walk(50), 1);
        DUE.is("register 1", address.state(true, 1), 256 + address.place(1, 9));
        House none = behindReturn();
        none.plain(8, 5, 2, 0, 0, 9);
        none.flow(8, 9, 2);
        none.flow(4, 2, 0);
        none.flow(0, 9, 1);
        withReturn(none);
        DUE.is("others leave it UNKNOWN", none.walk(50), 1);
        DUE.is("17", none.state(true, 17), 1);
    }

    private static void returnReadsNothing() {
        DUE.sentence("IV", "RETURN: POP 1 .. then like GO 1");
        House h = new House();
        h.set(0, 4, 100);
        h.flow(3, 0, 0);
        h.flow(3, 0, 0);
        h.plain(22, 0, 0, 0, 0, 0);
        h.flow(0, 0, 0);
        h.flow(7, 0, 0);
        h.build();
        DUE.is("a RETURN with register 1 UNKNOWN", h.walk(50), 1);
        DUE.is("STEPS", h.state(true, 13), 5);
    }

    private static void unknownAsBaseOrIndex() {
        DUE.sentence("IV", "register 1 as base, index");
        int[][] opForms = {{0, 3}, {1, 4}, {4, 6}, {7, 3}, {8, 3}, {8, 4}, {8, 6}, {9, 4}, {10, 3}, {11, 3}, {12, 7}, {13, 7}, {14, 6}, {15, 6}, {16, 6}};
        for (int[] one : opForms) {
            reads(true, one[0], one[1], 2, 1 + 16 * NO, 1);
            reads(true, one[0], one[1], 2, NO + 16 * 1, 1);
            reads(true, one[0], one[1], 2, 2 + 16 * 1 + 256 * 3, 1);
            reads(true, one[0], one[1], 2, 1 + 16 * 2, 1);
            reads(false, one[0], one[1], 2, 2 + 16 * 2, 1);
            reads(false, one[0], one[1], 2, DIRECT, 1);
        }
        reads(true, 10, 3, 1, 1 + 16 * NO, 0);
        reads(true, 8, 3, 1, 1 + 16 * NO, 0);
    }

    private static void unknownAsRightOrLeft() {
        DUE.sentence("IV", "right one, left one (but of MOV, LEA, POP)");
        for (int op : new int[] {0, 1, 4, 5, 6, 7, 8, 9, 11}) {
            reads(true, op, 2, 2, 1, 0);
            reads(true, op, 2, 1, 1, 0);
            reads(op != 8, op, 2, 1, 2, 0);
        }
        for (int op : new int[] {0, 1, 4, 5, 6, 7, 8}) {
            reads(op != 8, op, 3, 1, DIRECT, 0);
            reads(true, op, 4, 1, DIRECT, 0);
            reads(op != 8, op, 5, 1, 0, 3);
            reads(false, op, 6, 1, DIRECT, 3);
        }
        reads(true, 9, 4, 1, DIRECT, 0);
        reads(true, 11, 3, 1, DIRECT, 0);
        reads(false, 10, 3, 1, DIRECT, 0);
        reads(false, 20, 1, 1, 0, 0);
        for (int op : new int[] {12, 13, 17, 18}) {
            reads(true, op, 1, 1, 0, 0);
            reads(false, op, 1, 2, 0, 0);
        }
        for (int op : new int[] {14, 15, 16}) {
            reads(true, op, 5, 1, 0, 0);
            reads(true, op, 5, 1, 0, 1);
            reads(true, op, 5, 1, 0, 32);
            reads(false, op, 5, 2, 1, 1);
        }
    }

    private static void unknownNotLookedAt() {
        DUE.sentence("6", "(numbers that its FORM doesn't have are not looked at)");
        reads(false, 21, 0, 1, 1, 1);
        reads(false, 19, 8, 1, 1, 1);
        reads(false, 20, 1, 2, 1, 1);
        reads(false, 0, 5, 2, 1, 1);
        reads(false, 14, 5, 2, 1 + 16, 1);
        reads(false, 0, 6, 1, DIRECT, 1);
        reads(false, 12, 7, 1, DIRECT, 1);
        reads(false, 17, 1, 2, 1 + 16, 1);
    }

    private static void unknownInGoAndPush() {
        DUE.sentence("IV", "in GO, GOSUB, PUSH");
        reads(true, 19, 1, 1, 0, 0);
        reads(false, 19, 1, 2, 0, 0);
        reads(false, 19, 8, 1, 1, 1);
        for (int sort = 5; sort <= 6; sort++) {
            House h = behindReturn();
            h.flow(sort, 1, 0);
            withReturn(h);
            DUE.is("sort " + sort, h.walk(50), UNKNOWN);
            DUE.is("STEPS", h.state(true, 13), 2);
            House other = behindReturn();
            other.set(0, 3, 0);
            other.flow(sort, 3, 0);
            withReturn(other);
            DUE.is("sort " + sort + " by another one", other.walk(50), 2);
        }
    }

    private static void unknownCarry() {
        DUE.sentence("IV", "C by ADC and SBB");
        for (int op = 2; op <= 3; op++) {
            reads(true, op, 2, 2, 2, 0);
            reads(true, op, 3, 2, DIRECT, 0);
            reads(true, op, 4, 2, DIRECT, 0);
            reads(true, op, 5, 2, 0, 0);
            reads(true, op, 6, 2, DIRECT, 0);
            House known = behindReturn();
            known.plain(7, 5, 7, 0, 0, 1);
            known.plain(op, 5, 2, 0, 0, 1);
            withReturn(known);
            DUE.is("C that is known again", known.walk(50), 1);
            DUE.is("it counts", known.state(true, 2), op == 2 ? 8 : 4);
            House still = behindReturn();
            still.plain(17, 1, 3, 0, 0, 0);
            still.plain(op, 5, 2, 0, 0, 1);
            withReturn(still);
            DUE.is("INC leaves it UNKNOWN", still.walk(50), UNKNOWN);
            DUE.is("STEPS", still.state(true, 13), 3);
        }
    }

    private static int branchBehind(int c, int[] plain) {
        House h = behindReturn();
        if (plain.length > 0) {
            h.plain(plain[0], plain[1], plain[2], plain[3], plain[4], plain[5]);
        }
        h.flow(2, 9, c);
        h.flow(0, 9, 0);
        withReturn(h);
        return h.walk(50);
    }

    private static void unknownConditions() {
        DUE.sentence("IV", "any of the FLAGS that a c names");
        for (int c : CONDITIONS) {
            DUE.is("all UNKNOWN, c " + c, branchBehind(c, new int[0]), UNKNOWN);
            boolean namesCarry = c == 2 || c == 3 || c == 6 || c == 7;
            DUE.is("C alone UNKNOWN (INC), c " + c, branchBehind(c, new int[] {17, 1, 2, 0, 0, 0}), namesCarry ? UNKNOWN : 1);
            DUE.is("C alone UNKNOWN (DEC), Z on, c " + c, branchBehind(c, new int[] {18, 1, 0, 0, 0, 0}), namesCarry ? UNKNOWN : 1);
            DUE.is("none UNKNOWN, c " + c, branchBehind(c, new int[] {7, 5, 2, 0, 0, 6}), 1);
        }
        // Z is on, so that C or Z holds whatever C is; but C is named.
        House h = behindReturn();
        h.set(0, 3, -1);
        h.plain(17, 1, 3, 0, 0, 0);
        h.flow(2, 9, 6);
        h.flow(0, 9, 0);
        withReturn(h);
        DUE.is("C or Z, with Z on and C UNKNOWN", h.walk(50), UNKNOWN);
    }

    private static void whatLeavesUnknown() {
        DUE.sentence("IV", "(INC, DEC, a shift by 0 leave what was UNKNOWN so.)");
        int[][] some = {{17, 1, 2, 0, 0, 0}, {18, 1, 2, 0, 0, 0}, {14, 5, 2, 0, 0, 0}, {15, 5, 2, 0, 0, 32}, {16, 5, 2, 0, 0, 224}, {12, 1, 2, 0, 0, 0}, {8, 5, 2, 0, 0, 1},
            {19, 1, 2, 0, 0, 0}, {20, 1, 2, 0, 0, 0}, {21, 0, 0, 0, 0, 0}, {10, 3, 2, DIRECT, 0, 0}, {14, 5, 2, 0, 0, 1}, {0, 5, 2, 0, 0, 1}, {4, 5, 2, 0, 0, 1}, {13, 1, 2, 0, 0, 0},
            {11, 2, 2, 2, 0, 0}, {7, 5, 2, 0, 0, 1}, {9, 2, 2, 2, 0, 0}};
        for (int k = 0; k < some.length; k++) {
            House h = behindReturn();
            h.plain(some[k][0], some[k][1], some[k][2], some[k][3], some[k][4], some[k][5]);
            withReturn(h);
            DUE.is("walk", h.walk(50), 1);
            String what = "OP " + some[k][0] + " by " + some[k][5];
            boolean allUnknown = k >= 2 && k <= 10;
            DUE.is(what + ": C", h.state(true, 8) == 2, k <= 10);
            for (int f = 9; f <= 11; f++) {
                DUE.is(what + ": FLAG " + f, h.state(true, f) == 2, allUnknown);
            }
        }
    }

    private static void unknownChangesNothing() {
        DUE.sentence("IV", "STOPS with 7 UNKNOWN, likewise (without a STEP, nothing being changed)");
        House h = behindReturn();
        h.plain(0, 2, 2, 1, 0, 0);
        withReturn(h);
        DUE.is("UNKNOWN", h.walk(50), UNKNOWN);
        int[] want = {0, 0, 6, 0, 100, 0, 0, 0, 2, 2, 2, 2, 256 + h.place(0, 1), 2, UNKNOWN, 0, 0, 1};
        for (int what = 0; what < want.length; what++) {
            DUE.is("state " + what, h.state(true, what), want[what]);
        }
        House push = behindReturn();
        push.plain(19, 1, 1, 0, 0, 0);
        withReturn(push);
        push.walk(50);
        DUE.is("the STACK'S", push.state(true, 4), 100);
        House branch = behindReturn();
        branch.flow(2, 0, 4);
        withReturn(branch);
        branch.walk(50);
        DUE.is("it stands at the BRANCH", branch.state(true, 12), 256 + branch.place(0, 1));
    }

    private static void unknownAheadOfData() {
        DUE.sentence("IV", "Of several STOPS the first one of UNKNOWN, .. DATA");
        int[][] some = {{2, 3, 2, DIRECT, 1021, 0}, {0, 4, 1, DIRECT, 1021, 0}, {0, 3, 1, DIRECT, -1, 0}, {8, 3, 2, 1 + 16 * 2, MAX, 0}};
        for (int[] p : some) {
            House h = behindReturn();
            h.plain(p[0], p[1], p[2], p[3], p[4], p[5]);
            withReturn(h);
            DUE.is("OP " + p[0] + " FORM " + p[1], h.walk(50), UNKNOWN);
        }
        House push = behindReturn();
        push.plain(8, 5, 4, 0, 0, 3);
        push.plain(19, 1, 1, 0, 0, 0);
        withReturn(push);
        DUE.is("PUSH", push.walk(50), UNKNOWN);
        House data = behindReturn();
        data.plain(8, 3, 1, DIRECT, 1021, 0);
        withReturn(data);
        DUE.is("nothing UNKNOWN is read: DATA", data.walk(50), 3);
    }

    private static void unknownAheadOfLost() {
        DUE.sentence("IV", "Of several STOPS the first one of UNKNOWN, LOST, DATA");
        for (int stack : new int[] {100, 0}) {
            House h = behindReturn();
            h.plain(8, 5, 4, 0, 0, stack);
            h.flow(6, 1, 0);
            withReturn(h);
            DUE.is("GOSUB 1 with " + stack, h.walk(50), UNKNOWN);
        }
    }

    private static void lostAheadOfData() {
        DUE.sentence("IV", "Of several STOPS the first one of .. LOST, DATA");
        House h = landing(6);
        h.set(0, 2, 5);
        h.set(0, 4, 3);
        DUE.is("GOSUB: LOST", h.walk(50), LOST);
        h.set(0, 2, 0);
        DUE.is("GOSUB: DATA", h.walk(50), 3);
        DUE.is("nothing is changed: FLAGS", h.state(true, 8), 0);
        DUE.is("nothing is changed: the STACK'S", h.state(true, 4), 3);
        DUE.is("STEPS", h.state(true, 13), 0);
        h.set(0, 4, 4);
        DUE.is("GOSUB: with a WORD", h.walk(50), 2);
    }

    /** GO to OUT, and as many addresses of OUT on the STACK, so that the OUTPUT has 100; then the last WORD is popped. */
    private static House outs(int last) {
        House h = new House();
        h.set(0, 4, 1024 - 404);
        h.set(0, 2, 16);
        for (int a = 1024 - 404; a < 1020; a += 4) {
            h.set(1, a, 16);
        }
        h.set(1, 1020, last);
        h.flow(5, 2, 0);
        h.build();
        return h;
    }

    private static void lostAheadOfFull() {
        DUE.sentence("IV", "Of several STOPS the first one of .. LOST, .. FULL");
        House lost = outs(17);
        DUE.is("LOST", lost.walk(500), LOST);
        DUE.is("OUTPUT", lost.state(true, 15), 100);
        House full = outs(16);
        DUE.is("FULL", full.walk(500), 6);
        DUE.is("OUTPUT", full.state(true, 15), 100);
        DUE.is("the STACK'S", full.state(true, 4), 1020);
        DUE.is("it stands at OUT", full.state(true, 12), 16);
        DUE.is("STEPS", full.state(true, 13), 101);
    }

    private static void dataAheadOfFull() {
        DUE.sentence("IV", "Of several STOPS the first one of .. DATA, FULL");
        House h = outs(16);
        h.set(0, 4, 1024 - 400);
        DUE.is("DATA", h.walk(500), 3);
        DUE.is("OUTPUT", h.state(true, 15), 100);
    }

    private static void lostOnlyWithAWord() {
        DUE.sentence("IV", "(LOST only if the WORD that it is to be is there)");
        for (int stack : new int[] {-1, -4, 1021, 1024, MIN, MAX}) {
            House back = landing(7);
            back.set(0, 4, stack);
            DUE.is("RETURN with " + stack, back.walk(50), 3);
            DUE.is("the STACK'S", back.state(true, 4), stack);
            DUE.is("register 1 is known", back.state(true, 17), 0);
            DUE.is("STEPS", back.state(true, 13), 0);
            for (int service = 16; service <= 48; service += 16) {
                House h = landing(5);
                h.set(0, 2, service);
                h.set(0, 4, stack);
                DUE.is("SERVICE with " + stack, h.walk(50), 3);
            }
        }
        for (int stack : new int[] {0, 1020}) {
            House back = landing(7);
            back.set(0, 4, stack);
            back.set(1, stack, 5);
            DUE.is("RETURN with " + stack, back.walk(50), LOST);
            back.set(1, stack, 0);
            DUE.is("RETURN to EXIT", back.walk(50), 2);
        }
    }

    private static void fuelAheadOfAll() {
        DUE.sentence("II", "0 FUEL: as many STEPS as it may were done (ahead of all others)");
        House lost = new House();
        lost.nops(1);
        lost.set(0, 2, 5);
        lost.flow(5, 2, 0);
        lost.build();
        DUE.is("ahead of LOST", lost.walk(1), 0);
        DUE.is("LOST", lost.walk(2), LOST);
        House unknown = behindReturn();
        unknown.flow(2, 0, 0);
        withReturn(unknown);
        DUE.is("ahead of UNKNOWN", unknown.walk(2), 0);
        DUE.is("UNKNOWN", unknown.walk(3), UNKNOWN);
        House full = outs(16);
        DUE.is("ahead of FULL", full.walk(101), 0);
        DUE.is("FULL", full.walk(102), 6);
        House halt = new House();
        halt.nops(1);
        halt.build();
        DUE.is("ahead of HALT", halt.walk(1), 0);
        DUE.is("HALT", halt.walk(2), 1);
        House exit = new House();
        exit.set(0, 4, 4);
        exit.flow(4, 0, 0);
        exit.build();
        DUE.is("ahead of EXIT", exit.walk(1), 0);
        DUE.is("EXIT", exit.walk(2), 2);
    }

    private static void stateOfUnknown() {
        DUE.sentence("17", "a register (UNKNOWN: 0), 8 C, 9 Z, 10 S, 11 O (1, 0, UNKNOWN: 2) .. 17: 1 if register 1 is UNKNOWN");
        House h = withReturn(behindReturn());
        h.walk(1);
        DUE.is("known: register 1", h.state(true, 1), 5);
        DUE.is("known: 17", h.state(true, 17), 0);
        DUE.is("known: C", h.state(true, 8), 0);
        h.walk(2);
        DUE.is("UNKNOWN: register 1", h.state(true, 1), 0);
        DUE.is("UNKNOWN: 17", h.state(true, 17), 1);
        for (int f = 8; f <= 11; f++) {
            DUE.is("UNKNOWN: FLAG " + f, h.state(true, f), 2);
        }
        h.run(50);
        DUE.is("a RUN knows it", h.state(false, 1), 272);
        DUE.is("17 of a RUN", h.state(false, 17), 0);
        DUE.is("C of a RUN", h.state(false, 8), 0);
        h.walk(1);
        DUE.is("the next WALK begins with it known", h.state(true, 17), 0);
        DUE.is("and FLAGS off", h.state(true, 11), 0);
    }
}
