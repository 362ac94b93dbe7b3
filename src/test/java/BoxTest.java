/** Promises 14, 15, 17, 18 and 19: set, run, state, data, output; II. THE BOX. */
final class BoxTest {
    private static final Due DUE = new Due();
    private static final int NO = 8;
    private static final int DIRECT = 136;

    public static void main(String[] args) {
        refused();
        setting();
        addresses();
        wordEdges();
        moves();
        stack();
        branches();
        jumpsAndCalls();
        goes();
        services();
        input();
        full();
        wild();
        fuel();
        nothingChanged();
        edgesOfState();
        DUE.end();
    }

    private static void refused() {
        House h = new House();
        DUE.refuses("no CODE", "IllegalStateException", () -> h.run(5));
        h.build();
        for (int fuel : new int[] {0, -1, 5001, Integer.MAX_VALUE, Integer.MIN_VALUE}) {
            DUE.refuses("fuel " + fuel, "IllegalArgumentException", () -> h.run(fuel));
        }
        DUE.refuses("no RUN by that", "NoSuchElementException", () -> h.state(false, 14));
        DUE.is("fuel 1", h.run(1), 1);
        DUE.is("fuel 5000", h.run(5000), 1);
        DUE.refuses("fuel 0", "IllegalArgumentException", () -> h.run(0));
        DUE.is("the RUN stays", h.state(false, 14), 1);
        DUE.refuses("no WALK by a RUN", "NoSuchElementException", () -> h.state(true, 14));
        DUE.is("no DATA of a WALK", h.data(true, 0), -1);
    }

    private static void setting() {
        House h = House.holding(House.HALT);
        for (int k = 0; k < 8; k++) {
            DUE.is("set register", h.set(0, k, 100 + k), true);
        }
        DUE.is("register -1", h.set(0, -1, 5), false);
        DUE.is("register 8", h.set(0, 8, 5), false);
        DUE.is("WORD 0", h.set(1, 0, 0x04030201), true);
        DUE.is("WORD 1020", h.set(1, 1020, 0xFFEEDDCC), true);
        DUE.is("WORD 2 over WORD 0", h.set(1, 2, 0x11111111), true);
        DUE.is("WORD -1", h.set(1, -1, 5), false);
        DUE.is("WORD 1021", h.set(1, 1021, 5), false);
        DUE.is("WORD MAX", h.set(1, Integer.MAX_VALUE, 5), false);
        DUE.is("sort 4", h.set(4, 0, 5), false);
        DUE.is("sort -1", h.set(-1, 0, 5), false);
        DUE.is("nothing runs yet", h.data(false, 0), -1);
        h.run(1);
        for (int k = 0; k < 8; k++) {
            DUE.is("register " + k, h.state(false, k), 100 + k);
        }
        int[] want = {1, 2, 0x11, 0x11, 0x11, 0x11, 0};
        for (int a = 0; a < want.length; a++) {
            DUE.is("data " + a, h.data(false, a), want[a]);
        }
        DUE.is("data 1020", h.data(false, 1020), 0xCC);
        DUE.is("data 1023", h.data(false, 1023), 0xFF);
        DUE.is("data 1024", h.data(false, 1024), -1);
        DUE.is("data -1", h.data(false, -1), -1);
        DUE.is("all as at first", h.set(3, -9, 77), true);
        DUE.is("the RUN stays as it was", h.state(false, 3), 103);
        DUE.is("its DATA, too", h.data(false, 1), 2);
        h.run(1);
        for (int k = 0; k < 8; k++) {
            DUE.is("register " + k + " as at first", h.state(false, k), 0);
        }
        for (int a : new int[] {0, 1, 2, 3, 4, 5, 6, 1020, 1021, 1022, 1023}) {
            DUE.is("data " + a + " as at first", h.data(false, a), 0);
        }
        DUE.is("CODE stays", h.size(), 16);
    }

    private static void addresses() {
        House h = new House();
        h.set(0, 1, 10);
        h.set(0, 2, 3);
        h.set(0, 4, 500);
        int[][] xd = {{1 + 16 * 2, 5, 18}, {1 + 16 * 2 + 256 * 3, 5, 39}, {NO + 16 * 2 + 256 * 2, -1, 11}, {DIRECT, 77, 77}, {4 + 16 * NO, 4, 504},
            {1 + 16 * 1 + 256, 0, 30}, {4 + 16 * 2, -500, 3}, {1 + 16 * NO, Integer.MAX_VALUE, Integer.MIN_VALUE + 9}};
        for (int[] one : xd) {
            h.clear();
            h.plain(10, 3, 5, one[0], one[1], 0);
            h.build();
            DUE.is("LEA runs", h.run(9), 1);
            DUE.is("LEA", h.state(false, 5), one[2]);
            h.clear();
            h.plain(8, 6, 0, one[0], one[1], 0x12345678);
            h.build();
            boolean is = one[2] >= 0 && one[2] <= 1020;
            DUE.is("MOV runs", h.run(9), is ? 1 : 3);
            DUE.is("MOV", is ? h.data(false, one[2]) : 0x78, 0x78);
            DUE.is("MOV, the highest", is ? h.data(false, one[2] + 3) : 0x12, 0x12);
        }
    }

    private static void wordEdges() {
        int[][] opForm = {{0, 3}, {0, 4}, {0, 6}, {7, 3}, {7, 4}, {7, 6}, {8, 3}, {8, 4}, {8, 6}, {9, 4}, {11, 3}, {12, 7}, {13, 7}, {14, 6}, {15, 6}, {16, 6}};
        for (int[] one : opForm) {
            for (int a : new int[] {-1, 0, 1020, 1021, Integer.MAX_VALUE, Integer.MIN_VALUE}) {
                House h = new House();
                h.plain(one[0], one[1], 2, DIRECT, a, 0);
                h.build();
                boolean is = a == 0 || a == 1020;
                DUE.is("OP " + one[0] + " FORM " + one[1] + " at " + a, h.run(9), is ? 1 : 3);
                DUE.is("STEPS", h.state(false, 13), is ? 2 : 0);
                DUE.is("it is at", h.state(false, 12), is ? 256 + h.decoded(0, 0) : 256);
            }
        }
    }

    private static void moves() {
        House h = new House();
        h.set(0, 0, 7);
        h.set(0, 6, -9);
        h.set(1, 40, 1234567);
        h.plain(8, 2, 1, 6, 0, 0);
        h.plain(8, 3, 2, DIRECT, 40, 0);
        h.plain(8, 4, 6, DIRECT, 44, 0);
        h.plain(8, 5, 3, 0, 0, Integer.MIN_VALUE);
        h.plain(8, 6, 0, DIRECT, 48, 258);
        h.plain(17, 1, 0, 0, 0, 0);
        h.plain(18, 1, 6, 0, 0, 0);
        h.plain(12, 7, 0, DIRECT, 48, 0);
        h.build();
        DUE.is("run", h.run(50), 1);
        int[] want = {8, -9, 1234567, Integer.MIN_VALUE, 0, 0, -10, 0};
        for (int k = 0; k < 8; k++) {
            DUE.is("register " + k, h.state(false, k), want[k]);
        }
        DUE.is("WORD 44", h.data(false, 44), 247);
        DUE.is("WORD 48", h.data(false, 48), 253);
        DUE.is("WORD 48, second", h.data(false, 49), 254);
        DUE.is("WORD 48, third", h.data(false, 50), 255);
    }

    private static House oneRun(int stack, int op, int form, int r, int i) {
        House h = new House();
        h.set(0, 4, stack);
        h.set(0, 2, 99);
        h.set(1, 200, 55);
        h.plain(op, form, r, 0, 0, i);
        h.build();
        h.run(9);
        return h;
    }

    private static void stack() {
        House h = oneRun(204, 19, 1, 2, 0);
        DUE.is("PUSH: the STACK'S", h.state(false, 4), 200);
        DUE.is("PUSH: the WORD", h.data(false, 200), 99);
        h = oneRun(204, 19, 1, 4, 0);
        DUE.is("PUSH of the STACK'S: as it was ahead", h.data(false, 200), 204);
        h = oneRun(204, 19, 8, 0, -2);
        DUE.is("PUSH I", h.data(false, 200), 254);
        DUE.is("PUSH I, the highest", h.data(false, 203), 255);
        h = oneRun(200, 20, 1, 3, 0);
        DUE.is("POP", h.state(false, 3), 55);
        DUE.is("POP: the STACK'S", h.state(false, 4), 204);
        DUE.is("POP: the WORD stays", h.data(false, 200), 55);
        h = oneRun(200, 20, 1, 4, 0);
        DUE.is("POP of the STACK'S", h.state(false, 4), 55);
        int[][] edges = {{3, 3, 1}, {4, 1, 1}, {0, 3, 1}, {1020, 1, 1}, {1021, 1, 3}, {1024, 1, 3}, {1025, 3, 3}, {-1, 3, 3}, {Integer.MIN_VALUE, 3, 3}};
        for (int[] one : edges) {
            DUE.is("PUSH at " + one[0], oneRun(one[0], 19, 8, 0, 1).state(false, 14), one[1]);
            DUE.is("PUSH of a register at " + one[0], oneRun(one[0], 19, 1, 0, 1).state(false, 14), one[1]);
            DUE.is("POP at " + one[0], oneRun(one[0], 20, 1, 0, 1).state(false, 14), one[2]);
        }
    }

    /** FLAGS by CMP of these two, then each c. */
    private static void branches() {
        int[][] pairs = {{0, 0}, {1, 2}, {2, 1}, {-1, 1}, {1, -1}, {Integer.MIN_VALUE, 1}, {Integer.MAX_VALUE, -1}, {-5, -5}};
        for (int[] p : pairs) {
            int difference = p[0] - p[1];
            boolean less = p[0] < p[1];
            boolean below = Integer.compareUnsigned(p[0], p[1]) < 0;
            boolean over = (long) p[0] - p[1] != difference;
            boolean[] want = {over, below, difference == 0, below || difference == 0, difference < 0, false, less, less || difference == 0};
            for (int c = 0; c < 16; c++) {
                if (c != 10 && c != 11) {
                    House h = new House();
                    h.set(0, 0, p[0]);
                    h.plain(7, 5, 0, 0, 0, p[1]);
                    h.flow(2, 0, c);
                    h.plain(17, 1, 7, 0, 0, 0);
                    h.flow(0, 0, 0);
                    h.build();
                    boolean taken = want[c / 2] == (c % 2 == 0);
                    DUE.is("run", h.run(9), 1);
                    DUE.is("BRANCH " + c + " of " + p[0] + ", " + p[1], h.state(false, 7), taken ? 0 : 1);
                    DUE.is("walk", h.walk(9), 1);
                    DUE.is("BRANCH " + c + " of a WALK", h.state(true, 7), taken ? 0 : 1);
                }
            }
        }
    }

    private static void jumpsAndCalls() {
        House h = House.holding(House.with(House.with(House.filled(48, 244), 0, House.filled(16, 144)), 11, 232, 16, 0, 0, 0, 244));
        h.set(0, 4, 100);
        DUE.is("CALL", h.run(20), 1);
        DUE.is("it is at", h.state(false, 12), 288);
        DUE.is("STEPS", h.state(false, 13), 13);
        DUE.is("pushed", h.data(false, 96), 272 & 255);
        DUE.is("pushed, second", h.data(false, 97), 1);
        DUE.is("the STACK'S", h.state(false, 4), 96);
        h.set(0, 4, 3);
        DUE.is("CALL without a WORD", h.run(20), 3);
        DUE.is("it stands there", h.state(false, 12), 267);
        DUE.is("the STACK'S stays", h.state(false, 4), 3);
        DUE.is("STEPS", h.state(false, 13), 11);
        House jump = House.holding(235, 3, 64, 64, 64, 65);
        DUE.is("JUMP", jump.run(9), 1);
        DUE.is("over INCS", jump.state(false, 0), 0);
        DUE.is("to the last one", jump.state(false, 1), 1);
        House service = House.holding(233, 0xFB, 0xFE, 255, 255);
        DUE.is("JUMP to EXIT", service.run(9), 2);
        DUE.is("STEPS", service.state(false, 13), 2);
        DUE.is("it stands there", service.state(false, 12), 0);
    }

    private static void goes() {
        House h = House.holding(House.with(House.filled(48, 244), 0, House.with(House.filled(16, 144), 11, 131, 226, 240, 255, 210)));
        h.set(0, 4, 100);
        h.set(0, 2, 288 + 13);
        DUE.is("GOSUB", h.run(50), 1);
        DUE.is("it is at", h.state(false, 12), 288);
        DUE.is("its register", h.state(false, 2), 288);
        DUE.is("pushed", h.data(false, 96), 16);
        DUE.is("STEPS", h.state(false, 13), 14);
        DUE.is("none at no START", h.state(false, 16), 0);
        h.set(0, 4, 0);
        DUE.is("GOSUB without a WORD", h.run(50), 3);
        DUE.is("it stands there", h.state(false, 12), 270);
        House own = House.holding(House.with(House.filled(48, 244), 0, House.with(House.filled(16, 144), 11, 131, 228, 240, 255, 212)));
        own.set(0, 4, 280);
        DUE.is("GOSUB by the STACK'S", own.run(50), 1);
        DUE.is("as it was ahead", own.state(false, 12), 272);
        DUE.is("the STACK'S", own.state(false, 4), 268);
        House go = House.holding(131, 224, 240, 255, 224);
        go.set(0, 0, 60);
        DUE.is("GO to EXIT", House.holding(131, 224, 240, 255, 224).run(50), 2);
        go.set(0, 4, -4);
        DUE.is("a SERVICE without a WORD", go.run(50), 3);
        DUE.is("it stands there", go.state(false, 12), 48);
        DUE.is("FLAGS of the AND", go.state(false, 9), 0);
    }

    private static void services() {
        House h = new House();
        h.set(0, 4, 960);
        h.set(0, 3, -5);
        h.set(2, 0, 41);
        h.flow(4, 3, 0);
        h.plain(8, 2, 5, 0, 0, 0);
        h.flow(4, 1, 0);
        h.flow(4, 2, 0);
        h.plain(8, 2, 6, 0, 0, 0);
        h.flow(4, 2, 0);
        h.plain(8, 2, 7, 0, 0, 0);
        h.flow(4, 1, 0);
        h.flow(4, 3, 0);
        h.flow(4, 0, 0);
        h.build();
        for (int k = 0; k < 2; k++) {
            boolean walk = k == 1;
            DUE.is("SERVICES", walk ? h.walk(500) : h.run(500), 2);
            DUE.is("COUNT at first", h.state(walk, 5), 0);
            DUE.is("IN", h.state(walk, 6), 41);
            DUE.is("IN of nothing", h.state(walk, 7), 0);
            DUE.is("COUNT", h.state(walk, 0), 2);
            DUE.is("OUTPUT", h.state(walk, 15), 2);
            DUE.is("output 0", h.output(walk, 0), -5);
            DUE.is("output 1", h.output(walk, 1), -5);
            DUE.refuses("output 2", "NoSuchElementException", () -> h.output(walk, 2));
            DUE.refuses("output -1", "NoSuchElementException", () -> h.output(walk, -1));
            DUE.refuses("output MAX", "NoSuchElementException", () -> h.output(walk, Integer.MAX_VALUE));
            DUE.is("it stands at EXIT", h.state(walk, 12), 0);
            DUE.is("the STACK'S of EXIT", h.state(walk, 4), 956);
        }
        DUE.is("again from the first", h.run(500), 2);
        DUE.is("OUTPUT of the latest alone", h.state(false, 15), 2);
        DUE.is("INPUT of the latest", h.state(false, 6), 41);
        House low = House.holding(131, 224, 240, 255, 224);
        low.set(0, 0, 48);
        low.set(0, 4, 500);
        low.set(1, 500, 256 + 15);
        DUE.is("the lowest bits of what it pops are off", low.run(3), 0);
        DUE.is("it is at", low.state(false, 12), 256);
        DUE.is("the STACK'S", low.state(false, 4), 504);
        DUE.is("COUNT gave register 0", low.state(false, 0), 0);
    }

    private static void input() {
        House h = new House();
        for (int k = 0; k < 50; k++) {
            DUE.is("INPUT " + k, h.set(2, -77, 1 + k * 3), true);
        }
        DUE.is("INPUT 50", h.set(2, 0, 1), false);
        h.set(0, 4, 900);
        h.flow(0, 0, 0);
        h.flow(4, 2, 0);
        h.plain(0, 2, 5, 0, 0, 0);
        h.plain(17, 1, 6, 0, 0, 0);
        h.flow(1, 0, 0);
        h.build();
        h.run(5000);
        DUE.is("all of the INPUT", h.state(false, 5), 50 + 3 * 49 * 50 / 2);
        DUE.is("and more turns", h.state(false, 6) > 50, true);
        h.walk(5000);
        DUE.is("all of the INPUT of a WALK", h.state(true, 5), 50 + 3 * 49 * 50 / 2);
        DUE.is("all as at first", h.set(3, 0, 0), true);
        DUE.is("INPUT again", h.set(2, 0, 8), true);
        h.set(0, 4, 900);
        h.run(5000);
        DUE.is("the one number", h.state(false, 5), 8);
    }

    private static void full() {
        House h = new House();
        h.set(0, 4, 900);
        h.flow(0, 0, 0);
        h.plain(17, 1, 3, 0, 0, 0);
        h.flow(4, 1, 0);
        h.flow(1, 0, 0);
        h.build();
        for (int k = 0; k < 2; k++) {
            boolean walk = k == 1;
            DUE.is("FULL", walk ? h.walk(5000) : h.run(5000), 6);
            DUE.is("OUTPUT", h.state(walk, 15), 100);
            DUE.is("output 0", h.output(walk, 0), 1);
            DUE.is("output 99", h.output(walk, 99), 100);
            DUE.is("it stands at OUT", h.state(walk, 12), 16);
            DUE.is("the STACK'S", h.state(walk, 4), 896);
            DUE.is("register 3", h.state(walk, 3), 101);
            DUE.refuses("output 100", "NoSuchElementException", () -> h.output(walk, 100));
        }
        DUE.is("STEPS of the WALK", h.state(true, 13), 4 * 100 + 2);
        dataAheadOfFull();
    }

    /** OUT again and again, by the address of OUT on the STACK, to where no WORD is any more. */
    private static void dataAheadOfFull() {
        House h = House.holding(131, 224, 240, 255, 224);
        h.set(0, 0, 16);
        h.set(0, 4, 1024 - 4 * 100);
        for (int a = 1024 - 400; a < 1024; a += 4) {
            h.set(1, a, 16);
        }
        DUE.is("DATA ahead of FULL", h.run(500), 3);
        DUE.is("OUTPUT", h.state(false, 15), 100);
        DUE.is("it stands at OUT", h.state(false, 12), 16);
        h.set(0, 4, 1024 - 4 * 101);
        h.set(1, 1024 - 404, 31);
        DUE.is("FULL", h.run(500), 6);
        DUE.is("the WORD is there", h.state(false, 4), 1020);
    }

    private static void wild() {
        House h = House.holding(131, 224, 240, 255, 224);
        for (int to : new int[] {64, 80, 240, 272, 1024, -16, Integer.MIN_VALUE, 0x7FFFFFF0}) {
            h.set(0, 0, to + 3);
            DUE.is("WILD " + to, h.run(50), 4);
            DUE.is("it is at", h.state(false, 12), to);
            DUE.is("STEPS", h.state(false, 13), 2);
            DUE.is("state 14", h.state(false, 14), 4);
        }
        House behind = House.holding(House.filled(16, 144));
        DUE.is("behind all", behind.run(50), 4);
        DUE.is("it is at", behind.state(false, 12), 272);
        DUE.is("FUEL ahead of WILD", behind.run(16), 0);
        DUE.is("STEPS", behind.state(false, 13), 16);
    }

    private static void fuel() {
        House h = House.holding(64, 235, 253);
        DUE.is("FUEL", h.run(5000), 0);
        DUE.is("STEPS", h.state(false, 13), 5000);
        DUE.is("INCS", h.state(false, 0), 2500);
        DUE.is("it is at", h.state(false, 12), 256);
        DUE.is("an odd FUEL", h.run(3), 0);
        DUE.is("it is at", h.state(false, 12), 257);
        House halt = House.holding(144, 244);
        DUE.is("FUEL ahead of HALT", halt.run(1), 0);
        DUE.is("it is at", halt.state(false, 12), 257);
        DUE.is("HALT", halt.run(2), 1);
        DUE.is("a STEP", halt.state(false, 13), 2);
        DUE.is("it stands there still", halt.state(false, 12), 257);
    }

    private static void nothingChanged() {
        House h = new House();
        h.set(0, 7, 0);
        h.plain(7, 5, 7, 0, 0, 1);
        h.plain(0, 3, 2, DIRECT, 1021, 0);
        h.build();
        DUE.is("DATA", h.run(50), 3);
        DUE.is("C stays", h.state(false, 8), 1);
        DUE.is("Z stays", h.state(false, 9), 0);
        DUE.is("S stays", h.state(false, 10), 1);
        DUE.is("STEPS", h.state(false, 13), 1);
    }

    private static void edgesOfState() {
        House h = House.holding(244);
        h.run(1);
        DUE.refuses("what -1", "NoSuchElementException", () -> h.state(false, -1));
        DUE.refuses("what 18", "NoSuchElementException", () -> h.state(false, 18));
        DUE.refuses("what MAX", "NoSuchElementException", () -> h.state(false, Integer.MAX_VALUE));
        DUE.is("16 of a RUN", h.state(false, 16), 0);
        DUE.is("17 of a RUN", h.state(false, 17), 0);
        DUE.refuses("output of a RUN without", "NoSuchElementException", () -> h.output(false, 0));
    }
}
