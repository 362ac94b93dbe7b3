/** Promise 16, and 17 to 19 of a WALK: UNKNOWN, LOST, and the order of the STOPS. */
final class WalkTest {
    private static final Due DUE = new Due();
    private static final int NO = 8;
    private static final int DIRECT = 136;
    private static final int[] CONDITIONS = {0, 1, 2, 3, 4, 5, 6, 7, 8, 9, 12, 13, 14, 15};

    public static void main(String[] args) {
        refused();
        positions();
        halts();
        unknownRegister();
        knownAgain();
        unknownFlags();
        flagsKnownAgain();
        unknownBehindGo();
        landings();
        lost();
        services();
        calls();
        orderOfStops();
        fuel();
        DUE.end();
    }

    private static void refused() {
        House h = new House();
        DUE.refuses("no PROGRAM", "IllegalStateException", () -> h.walk(5));
        House checked = House.holding(244);
        DUE.refuses("CODE, but no PROGRAM", "IllegalStateException", () -> checked.walk(5));
        h.build();
        for (int fuel : new int[] {0, -1, 5001, Integer.MAX_VALUE, Integer.MIN_VALUE}) {
            DUE.refuses("fuel " + fuel, "IllegalArgumentException", () -> h.walk(fuel));
        }
        DUE.refuses("no WALK by that", "NoSuchElementException", () -> h.state(true, 14));
        DUE.is("fuel 5000", h.walk(5000), 1);
        DUE.refuses("no RUN by a WALK", "NoSuchElementException", () -> h.state(false, 14));
        DUE.is("no DATA of a RUN", h.data(false, 0), -1);
        DUE.is("DATA of a WALK", h.data(true, 1023), 0);
        DUE.is("data 1024", h.data(true, 1024), -1);
        DUE.refuses("what 18", "NoSuchElementException", () -> h.state(true, 18));
        DUE.refuses("what -1", "NoSuchElementException", () -> h.state(true, -1));
        DUE.refuses("output 0", "NoSuchElementException", () -> h.output(true, 0));
        DUE.is("16", h.state(true, 16), 0);
        DUE.is("17", h.state(true, 17), 0);
    }

    /** Where it is: never at a LABEL. */
    private static void positions() {
        House h = new House();
        h.set(0, 4, 100);
        h.flow(0, 0, 0);
        h.plain(21, 0, 0, 0, 0, 0);
        h.flow(0, 1, 0);
        h.flow(0, 2, 0);
        h.flow(4, 3, 0);
        h.flow(1, 3, 0);
        h.flow(0, 3, 1);
        h.plain(8, 5, 0, 0, 0, 0);
        h.flow(0, 4, 0);
        h.build();
        int[] at = {256 + 11, 48, 256 + 16, 256 + 32, 256 + 37, 256 + 37};
        for (int fuel = 1; fuel <= 6; fuel++) {
            DUE.is("fuel " + fuel, h.walk(fuel), fuel == 6 ? 1 : 0);
            DUE.is("it is at, with fuel " + fuel, h.state(true, 12), at[fuel - 1]);
            DUE.is("STEPS", h.state(true, 13), fuel);
            DUE.is("state 14", h.state(true, 14), fuel == 6 ? 1 : 0);
        }
        House labels = new House();
        labels.flow(0, 0, 0);
        labels.flow(0, 1, 1);
        DUE.is("only LABELS", labels.build(), 0);
        DUE.is("HALT behind them", labels.walk(5), 1);
        DUE.is("one STEP", labels.state(true, 13), 1);
        DUE.is("it is at", labels.state(true, 12), 256);
    }

    private static void halts() {
        House h = new House();
        h.plain(21, 0, 0, 0, 0, 0);
        h.plain(22, 0, 0, 0, 0, 0);
        h.plain(17, 1, 0, 0, 0, 0);
        h.build();
        DUE.is("HALT", h.walk(50), 1);
        DUE.is("STEPS", h.state(true, 13), 2);
        DUE.is("it stands there", h.state(true, 12), 257);
        DUE.is("nothing behind it", h.state(true, 0), 0);
    }

    /** CALL of a RETURN, so that register 1 and the FLAGS are UNKNOWN; then the INSTRUCTION; data word at 40. */
    private static House behindReturn() {
        House h = new House();
        h.set(0, 4, 100);
        h.set(0, 1, 5);
        h.set(0, 2, 6);
        h.flow(3, 0, 0);
        return h;
    }

    private static void withReturn(House h) {
        h.plain(22, 0, 0, 0, 0, 0);
        h.flow(0, 0, 0);
        h.flow(7, 0, 0);
        DUE.is("build", h.build(), 0);
    }

    private static void reads(boolean want, int op, int form, int r, int x, int i) {
        House h = behindReturn();
        h.plain(op, form, r, x, 40, i);
        withReturn(h);
        String what = "OP " + op + " FORM " + form + " of " + r + ", " + x;
        DUE.is(what, h.walk(50), want ? 7 : 1);
        DUE.is(what + ": STEPS", h.state(true, 13), want ? 2 : 4);
        if (want) {
            DUE.is(what + ": it is at", h.state(true, 12), 256 + h.place(0, 1));
            DUE.is(what + ": register 1", h.state(true, 1), 0);
            DUE.is(what + ": UNKNOWN", h.state(true, 17), 1);
        }
        DUE.is(what + ": a RUN", h.run(100), 1);
    }

    private static void unknownRegister() {
        for (int op : new int[] {0, 1, 4, 5, 6, 7, 9, 11}) {
            reads(true, op, 2, 1, 2, 0);
            reads(true, op, 2, 2, 1, 0);
            reads(true, op, 2, 1, 1, 0);
            reads(false, op, 2, 2, 2, 0);
        }
        for (int op : new int[] {0, 1, 4, 5, 6, 7}) {
            reads(true, op, 3, 1, DIRECT, 0);
            reads(true, op, 4, 1, DIRECT, 0);
            reads(true, op, 5, 1, 0, 3);
            reads(false, op, 6, 1, DIRECT, 3);
            reads(false, op, 5, 2, 1, 3);
        }
        reads(true, 11, 3, 1, DIRECT, 0);
        reads(true, 9, 4, 1, DIRECT, 0);
        reads(true, 8, 2, 2, 1, 0);
        reads(true, 8, 2, 1, 1, 0);
        reads(true, 8, 4, 1, DIRECT, 0);
        reads(false, 8, 2, 1, 2, 0);
        reads(false, 8, 3, 1, DIRECT, 0);
        reads(false, 8, 5, 1, 0, 9);
        reads(false, 8, 6, 1, DIRECT, 9);
        reads(false, 10, 3, 1, DIRECT, 0);
        for (int op = 12; op <= 13; op++) {
            reads(true, op, 1, 1, 0, 0);
            reads(false, op, 7, 1, DIRECT, 0);
        }
        for (int op = 14; op <= 16; op++) {
            reads(true, op, 5, 1, 0, 0);
            reads(true, op, 5, 1, 0, 3);
            reads(false, op, 6, 1, DIRECT, 1);
        }
        reads(true, 17, 1, 1, 0, 0);
        reads(true, 18, 1, 1, 0, 0);
        reads(true, 19, 1, 1, 0, 0);
        reads(false, 19, 8, 1, 0, 1);
        reads(false, 20, 1, 1, 0, 0);
        reads(false, 21, 0, 1, 1, 1);
        for (int[] one : new int[][] {{0, 3}, {0, 4}, {0, 6}, {8, 3}, {8, 4}, {8, 6}, {10, 3}, {12, 7}, {14, 6}, {9, 4}, {11, 3}}) {
            readsAddress(one[0], one[1]);
        }
    }

    /** Register 1 as base or index; a RUN has 272 there, so that all WORDS are. */
    private static void readsAddress(int op, int form) {
        reads(true, op, form, 2, 1 + 16 * NO, 0);
        reads(true, op, form, 2, NO + 16 * 1, 0);
        reads(true, op, form, 2, 2 + 16 * 1 + 256, 0);
        reads(false, op, form, 2, 2 + 16 * NO, 0);
    }

    private static void knownAgain() {
        int[][] plains = {{8, 5, 1, 0, 0, 9, 9}, {8, 2, 1, 2, 0, 0, 6}, {8, 3, 1, DIRECT, 40, 0, 0}, {10, 3, 1, 2 + 16 * NO, 4, 0, 10}, {20, 1, 1, 0, 0, 0, 0}};
        for (int[] p : plains) {
            House h = behindReturn();
            h.plain(p[0], p[1], p[2], p[3], p[4], p[5]);
            h.plain(8, 2, 7, 1, 0, 0);
            withReturn(h);
            DUE.is("OP " + p[0] + " gives register 1", h.walk(50), 1);
            DUE.is("it is", h.state(true, 1), p[6]);
            DUE.is("and read", h.state(true, 7), p[6]);
            DUE.is("no more UNKNOWN", h.state(true, 17), 0);
        }
        House h = behindReturn();
        h.flow(0, 9, 1);
        h.flow(8, 9, 1);
        withReturn(h);
        DUE.is("ADDRESS gives register 1", h.walk(50), 1);
        DUE.is("it is", h.state(true, 1), 256 + h.place(1, 9));
        DUE.is("no more UNKNOWN", h.state(true, 17), 0);
        House other = behindReturn();
        other.plain(8, 5, 2, 0, 0, 9);
        withReturn(other);
        other.walk(50);
        DUE.is("another one leaves it UNKNOWN", other.state(true, 17), 1);
        DUE.is("UNKNOWN is 0", other.state(true, 1), 0);
        other.run(50);
        DUE.is("but of a RUN", other.state(false, 1), 272);
        DUE.is("17 of a RUN", other.state(false, 17), 0);
        other.walk(2);
        DUE.is("till then it is known", other.walk(1), 0);
        DUE.is("register 1", other.state(true, 1), 5);
        DUE.is("C", other.state(true, 8), 0);
    }

    private static void unknownFlags() {
        House at = behindReturn();
        withReturn(at);
        at.walk(2);
        for (int f = 8; f < 12; f++) {
            DUE.is("FLAG " + f, at.state(true, f), 2);
        }
        for (int c : CONDITIONS) {
            branchBehind(c, true, new int[0]);
        }
        for (int op = 2; op <= 3; op++) {
            reads(true, op, 5, 2, 0, 1);
            reads(true, op, 6, 2, DIRECT, 1);
            reads(true, op, 2, 2, 2, 1);
        }
    }

    private static void branchBehind(int c, boolean unknown, int[] plain) {
        House h = behindReturn();
        if (plain.length > 0) {
            h.plain(plain[0], plain[1], plain[2], plain[3], plain[4], plain[5]);
        }
        h.flow(2, 9, c);
        h.flow(0, 9, 0);
        withReturn(h);
        int steps = 2 + (plain.length > 0 ? 1 : 0);
        String what = "BRANCH " + c + " behind OP " + (plain.length > 0 ? plain[0] : -1);
        DUE.is(what, h.walk(50), unknown ? 7 : 1);
        DUE.is(what + ": STEPS", h.state(true, 13), unknown ? steps : steps + 2);
    }

    /** Which FLAGS each leaves UNKNOWN: INC and DEC the C, a shift by 0, NOT and MOV all. */
    private static void flagsKnownAgain() {
        int[][] all = {{0, 5, 2, 0, 0, 1}, {5, 5, 2, 0, 0, 1}, {7, 5, 2, 0, 0, 1}, {4, 5, 2, 0, 0, 1}, {9, 2, 2, 2, 0, 0}, {11, 2, 2, 2, 0, 0},
            {13, 1, 2, 0, 0, 0}, {14, 5, 2, 0, 0, 1}, {16, 5, 2, 0, 0, 33}};
        int[][] none = {{8, 5, 2, 0, 0, 1}, {12, 1, 2, 0, 0, 0}, {14, 5, 2, 0, 0, 0}, {15, 5, 2, 0, 0, 32}, {16, 5, 2, 0, 0, 64}, {10, 3, 2, DIRECT, 0, 0},
            {19, 8, 0, 0, 0, 1}, {20, 1, 2, 0, 0, 0}, {21, 0, 0, 0, 0, 0}};
        int[][] butCarry = {{17, 1, 2, 0, 0, 0}, {18, 1, 2, 0, 0, 0}};
        for (int c : CONDITIONS) {
            for (int[] p : all) {
                branchBehind(c, false, p);
            }
            for (int[] p : none) {
                branchBehind(c, true, p);
            }
            for (int[] p : butCarry) {
                branchBehind(c, c == 2 || c == 3 || c == 6 || c == 7, p);
            }
        }
        House h = behindReturn();
        h.plain(18, 1, 0, 0, 0, 0);
        withReturn(h);
        h.walk(50);
        int[] want = {2, 0, 1, 0};
        for (int f = 0; f < 4; f++) {
            DUE.is("behind DEC: FLAG " + f, h.state(true, 8 + f), want[f]);
        }
        House adc = behindReturn();
        adc.plain(7, 5, 0, 0, 0, 1);
        adc.plain(2, 5, 2, 0, 0, 1);
        withReturn(adc);
        DUE.is("ADC of a C that is known again", adc.walk(50), 1);
        DUE.is("with it", adc.state(true, 2), 8);
    }

    private static void unknownBehindGo() {
        for (int sort = 5; sort <= 6; sort++) {
            House h = new House();
            h.set(0, 4, 100);
            h.set(0, 1, 5);
            h.flow(8, 0, 2);
            h.flow(sort, 2, 0);
            h.flow(0, 0, 1);
            h.plain(21, 0, 0, 0, 0, 0);
            h.build();
            DUE.is("GO", h.walk(50), 1);
            for (int f = 8; f < 12; f++) {
                DUE.is("FLAG " + f, h.state(true, f), 2);
            }
            DUE.is("register 1 is known", h.state(true, 1), 5);
            DUE.is("17", h.state(true, 17), 0);
            DUE.is("its register", h.state(true, 2), 256 + h.place(1, 0));
            DUE.is("the STACK'S", h.state(true, 4), sort == 5 ? 100 : 96);
            DUE.is("pushed", h.data(true, 96), sort == 5 ? 0 : 256 + h.place(0, 1) + 5 & 255);
            DUE.is("STEPS", h.state(true, 13), 4);
        }
        for (int sort = 5; sort <= 6; sort++) {
            House h = behindReturn();
            h.flow(sort, 1, 0);
            withReturn(h);
            DUE.is("GO by what is UNKNOWN", h.walk(50), 7);
            DUE.is("STEPS", h.state(true, 13), 2);
            House other = behindReturn();
            other.set(0, 2, 0);
            other.flow(sort, 2, 0);
            withReturn(other);
            DUE.is("GO by another one", other.walk(50), 2);
            DUE.is("STEPS", other.state(true, 13), 4);
            DUE.is("register 1 is UNKNOWN still", other.state(true, 17), 1);
        }
        backToTheFirst();
    }

    /** A MARKED LABEL at the very beginning, by a register 1 that is known. */
    private static void backToTheFirst() {
        House h = new House();
        h.set(0, 1, 256);
        h.flow(0, 0, 1);
        h.plain(17, 1, 3, 0, 0, 0);
        h.flow(5, 1, 0);
        h.build();
        DUE.is("GO 1 to 256", h.walk(7), 0);
        DUE.is("it went round", h.state(true, 3), 4);
        DUE.is("it is at", h.state(true, 12), 257);
    }

    /** ITEMS: 0 GO, 1 LABEL 0, 2 INC 7, 3 MARKED LABEL 1, 4 INC 6, 5 CALL 0, 6 INC 5, 7 SERVICE, 8 GOSUB, 9 HALT. */
    private static House landing(int sort) {
        House h = new House();
        h.set(0, 4, 200);
        h.flow(sort, 2, 0);
        h.flow(0, 0, 0);
        h.plain(17, 1, 7, 0, 0, 0);
        h.flow(0, 1, 1);
        h.plain(17, 1, 6, 0, 0, 0);
        h.flow(3, 0, 0);
        h.plain(17, 1, 5, 0, 0, 0);
        h.flow(4, 3, 0);
        h.flow(6, 2, 0);
        h.plain(22, 0, 0, 0, 0, 0);
        DUE.is("build", h.build(), 0);
        return h;
    }

    private static void landings() {
        for (int sort = 5; sort <= 7; sort++) {
            House h = landing(sort);
            int[] good = {256 + h.place(1, 1), 256 + h.place(0, 5) + 5, 256 + h.place(0, 7) + 5, 256 + h.place(0, 8) + 5, 0, 16, 32, 48};
            int[] next = {256 + h.place(0, 4), 256 + h.place(0, 6), 256 + h.place(0, 8), 256 + h.place(0, 9), 0, 16, 32, 48};
            for (int to = -64; to < 1300; to++) {
                h.set(0, 2, to);
                h.set(1, 200, to);
                int found = -1;
                for (int k = 0; k < good.length; k++) {
                    found = good[k] == to ? k : found;
                }
                boolean behindGosub = sort == 6 && to == 256 + h.place(0, 0) + 5;
                boolean lands = found >= 0 || behindGosub;
                DUE.is("sort " + sort + " to " + to, h.walk(1), lands ? 0 : 9);
                DUE.is("it is at", h.state(true, 12), behindGosub ? 256 + h.place(0, 2) : lands ? next[found] : 256 + h.place(0, 0));
                if (to % 20 == 0) {
                    h = landing(sort);
                }
            }
            House far = landing(sort);
            for (int to : new int[] {Integer.MIN_VALUE, Integer.MAX_VALUE, 0x7FFFFFF0, -16}) {
                far.set(0, 2, to);
                far.set(1, 200, to);
                DUE.is("sort " + sort + " to " + to, far.walk(1), 9);
            }
        }
    }

    private static void lost() {
        House h = landing(5);
        h.set(0, 2, 256 + h.place(1, 1) + 1);
        h.set(0, 1, 77);
        DUE.is("no bits are taken off", h.walk(9), 9);
        DUE.is("STEPS", h.state(true, 13), 0);
        DUE.is("C is known still", h.state(true, 8), 0);
        DUE.is("its register stays", h.state(true, 2), 256 + h.place(1, 1) + 1);
        DUE.is("but a RUN gets there", h.run(2), 0);
        DUE.is("it is at", h.state(false, 12), 256 + h.place(1, 1));
        House back = landing(7);
        back.set(1, 200, 999);
        back.set(0, 1, 77);
        DUE.is("RETURN", back.walk(9), 9);
        DUE.is("the STACK'S stays", back.state(true, 4), 200);
        DUE.is("register 1 stays", back.state(true, 1), 77);
        DUE.is("17", back.state(true, 17), 0);
    }

    private static void services() {
        House h = new House();
        h.set(0, 4, 200);
        h.set(0, 2, 16);
        h.set(0, 3, 8);
        h.set(2, 0, 70);
        h.set(1, 200, 48);
        h.set(1, 204, 32);
        h.set(1, 208, 7);
        h.flow(5, 2, 0);
        h.build();
        DUE.is("SERVICE by SERVICE, then LOST", h.walk(50), 9);
        DUE.is("it stands at IN", h.state(true, 12), 32);
        DUE.is("STEPS", h.state(true, 13), 3);
        DUE.is("COUNT was done, IN not", h.state(true, 0), 1);
        DUE.is("the STACK'S", h.state(true, 4), 208);
        DUE.is("OUTPUT", h.output(true, 0), 8);
        h.set(1, 208, 0);
        DUE.is("and EXIT", h.walk(50), 2);
        DUE.is("IN", h.state(true, 0), 70);
        DUE.is("it stands at EXIT", h.state(true, 12), 0);
        DUE.is("STEPS", h.state(true, 13), 5);
    }

    private static void calls() {
        for (int sort : new int[] {3, 4}) {
            House h = new House();
            h.set(0, 4, 3);
            h.flow(0, 0, 0);
            h.plain(21, 0, 0, 0, 0, 0);
            h.flow(sort, 0, 0);
            h.build();
            DUE.is("without a WORD", h.walk(50), 3);
            DUE.is("it stands there", h.state(true, 12), 267);
            DUE.is("STEPS", h.state(true, 13), 1);
            DUE.is("the STACK'S stays", h.state(true, 4), 3);
            h.set(0, 4, 4);
            DUE.is("with one", h.walk(2), 0);
            DUE.is("it is at", h.state(true, 12), sort == 4 ? 0 : 256);
            DUE.is("pushed", h.data(true, 0), 16);
            DUE.is("pushed, second", h.data(true, 1), 1);
            DUE.is("FLAGS are known", h.state(true, 8), 0);
        }
    }

    private static void orderOfStops() {
        // UNKNOWN ahead of DATA: C by ADC with a WORD that isn't there.
        House h = behindReturn();
        h.plain(2, 3, 2, DIRECT, 2000, 0);
        withReturn(h);
        DUE.is("UNKNOWN ahead of DATA", h.walk(50), 7);
        House push = behindReturn();
        push.plain(8, 5, 4, 0, 0, 0);
        push.plain(19, 1, 1, 0, 0, 0);
        withReturn(push);
        DUE.is("UNKNOWN ahead of DATA, PUSH", push.walk(50), 7);
        House gosub = landing(6);
        gosub.set(0, 4, 0);
        gosub.set(0, 2, 5);
        DUE.is("LOST ahead of DATA, GOSUB", gosub.walk(50), 9);
        gosub.set(0, 2, 16);
        DUE.is("DATA, GOSUB", gosub.walk(50), 3);
        DUE.is("C is known still", gosub.state(true, 8), 0);
        House back = landing(7);
        back.set(0, 4, 1021);
        DUE.is("no WORD: DATA, not LOST, RETURN", back.walk(50), 3);
        House service = landing(5);
        service.set(0, 2, 48);
        service.set(0, 4, 1021);
        DUE.is("no WORD: DATA, not LOST, SERVICE", service.walk(50), 3);
        DUE.is("it stands at COUNT", service.state(true, 12), 48);
        fullOnes();
    }

    private static void fullOnes() {
        House h = new House();
        h.set(0, 4, 1024 - 4 * 101);
        h.set(0, 2, 16);
        for (int a = 1024 - 404; a < 1024; a += 4) {
            h.set(1, a, 16);
        }
        h.flow(5, 2, 0);
        h.build();
        DUE.is("FULL", h.walk(500), 6);
        DUE.is("OUTPUT", h.state(true, 15), 100);
        h.set(1, 1020, 17);
        DUE.is("LOST ahead of FULL", h.walk(500), 9);
        h.set(0, 4, 1024 - 400);
        h.set(1, 1020, 16);
        DUE.is("DATA ahead of FULL", h.walk(500), 3);
    }

    private static void fuel() {
        House h = new House();
        h.flow(0, 0, 0);
        h.flow(0, 1, 0);
        h.flow(1, 0, 0);
        h.build();
        DUE.is("FUEL", h.walk(5000), 0);
        DUE.is("STEPS", h.state(true, 13), 5000);
        House lost = landing(5);
        lost.set(0, 2, 5);
        lost.clear();
        lost.plain(21, 0, 0, 0, 0, 0);
        lost.flow(5, 2, 0);
        lost.build();
        DUE.is("FUEL ahead of LOST", lost.walk(1), 0);
        DUE.is("LOST", lost.walk(2), 9);
    }
}
