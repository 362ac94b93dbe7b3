/** Promises 14, 15 and 17 to 19, and II. THE BOX, sentence by sentence: each boundary case has a test of its own. */
final class RunEdgesTest {
    private static final Due DUE = new Due();
    private static final int MIN = Integer.MIN_VALUE;
    private static final int MAX = Integer.MAX_VALUE;
    private static final int DIRECT = 136;
    private static final String NO_SUCH = "NoSuchElementException";
    /** AND 0 with -16, GO 0: to wherever register 0 tells, its lowest four bits off. */
    private static final int[] GO_0 = {131, 224, 240, 255, 224};

    public static void main(String[] args) {
        setRegisters();
        setWords();
        setInput();
        setAllAsAtFirst();
        setRegistersAsAtFirst();
        setNoneSuch();
        setIsForLaterRuns();
        runWithoutCode();
        runFuel();
        runRefusedChangesNothing();
        runBeginsAnew();
        runFrom256();
        serviceExit();
        serviceOut();
        serviceIn();
        serviceCount();
        servicePops();
        serviceWithoutAWord();
        stopFuel();
        stopHalt();
        stopData();
        stopDataChangesNothing();
        stopWild();
        stopFull();
        stopDataAheadOfFull();
        stateWhats();
        stateNoSuch();
        stateOfTheLatest();
        dataInside();
        dataNoneSuch();
        outputInside();
        outputNoneSuch();
        upToTheLastCall();
        DUE.end();
    }

    private static House standing() {
        return House.holding(244);
    }

    private static void setRegisters() {
        DUE.sentence("14", "sort 0: register k is v .. False, and nothing happens, if there is none such");
        House h = standing();
        int[] values = {MIN, MAX, -1, 0, 1, 255, 256, 0x12345678};
        for (int k = 0; k < 8; k++) {
            DUE.is("register " + k, h.set(0, k, values[k]), true);
        }
        for (int k : new int[] {-1, 8, 9, 16, MIN, MAX}) {
            DUE.is("register " + k, h.set(0, k, 5), false);
        }
        h.run(1);
        for (int k = 0; k < 8; k++) {
            DUE.is("it is", h.state(false, k), values[k]);
        }
        h.set(0, 3, 9);
        h.set(0, 3, 8);
        h.run(1);
        DUE.is("the later one counts", h.state(false, 3), 8);
    }

    private static void setWords() {
        DUE.sentence("14", "1: the WORD at k .. False, and nothing happens, if there is none such");
        House h = standing();
        DUE.is("WORD 0", h.set(1, 0, 0x04030281), true);
        DUE.is("WORD 1020", h.set(1, 1020, 0xF4F3F2F1), true);
        for (int a : new int[] {-1, -4, 1021, 1022, 1023, 1024, MIN, MAX}) {
            DUE.is("WORD " + a, h.set(1, a, -1), false);
        }
        h.run(1);
        int[] low = {0x81, 2, 3, 4, 0};
        int[] high = {0, 0xF1, 0xF2, 0xF3, 0xF4};
        for (int k = 0; k < 5; k++) {
            DUE.is("BYTE " + k, h.data(false, k), low[k]);
            DUE.is("BYTE " + (1019 + k), h.data(false, 1019 + k), high[k]);
        }
        DUE.is("WORD 3, over another one", h.set(1, 3, -1), true);
        DUE.is("WORD 1019, over another one", h.set(1, 1019, 0), true);
        h.run(1);
        DUE.is("BYTE 2 stays", h.data(false, 2), 3);
        DUE.is("BYTE 3", h.data(false, 3), 255);
        DUE.is("BYTE 6", h.data(false, 6), 255);
        DUE.is("BYTE 7 stays", h.data(false, 7), 0);
        DUE.is("BYTE 1022", h.data(false, 1022), 0);
        DUE.is("BYTE 1023 stays", h.data(false, 1023), 0xF4);
    }

    /** IN again and again; each number is added to register 5 and 6 counts them. */
    private static House reading() {
        House h = new House();
        h.set(0, 4, 900);
        h.flow(0, 0, 0);
        h.flow(4, 2, 0);
        h.plain(0, 2, 5, 0, 0, 0);
        h.plain(17, 1, 6, 0, 0, 0);
        h.plain(7, 5, 6, 0, 0, 60);
        h.flow(2, 0, 5);
        h.build();
        return h;
    }

    private static void setInput() {
        DUE.sentence("14", "2: v comes behind the INPUT (k is not looked at) .. False, and nothing happens, if .. the INPUT has 50");
        House h = reading();
        int[] odd = {0, -1, 8, 50, MIN, MAX};
        int sum = 0;
        for (int k = 0; k < 50; k++) {
            DUE.is("number " + k, h.set(2, odd[k % odd.length], 1 << k % 20), true);
            sum += 1 << k % 20;
        }
        for (int k : odd) {
            DUE.is("number 50", h.set(2, k, 12345), false);
        }
        for (int turn = 0; turn < 2; turn++) {
            DUE.is("run", h.run(5000), 1);
            DUE.is("each RUN has all 50, and no other one", h.state(false, 5), sum);
            DUE.is("walk", h.walk(5000), 1);
            DUE.is("each WALK, too", h.state(true, 5), sum);
        }
        DUE.is("other sorts are not refused then", h.set(0, 5, 7), true);
        DUE.is("nor is 3", h.set(3, 0, 0), true);
        DUE.is("and then there is room", h.set(2, 0, 1), true);
        orderOfInput();
    }

    private static void orderOfInput() {
        House h = new House();
        h.set(0, 4, 900);
        for (int k = 0; k < 3; k++) {
            h.set(2, 0, 10 + k);
            h.flow(4, 2, 0);
            h.plain(8, 4, 0, DIRECT, 4 * k, 0);
        }
        h.build();
        h.run(99);
        h.walk(99);
        for (int k = 0; k < 3; k++) {
            DUE.is("in their order", h.data(false, 4 * k), 10 + k);
            DUE.is("of a WALK, too", h.data(true, 4 * k), 10 + k);
        }
    }

    private static void setAllAsAtFirst() {
        DUE.sentence("14", "3: all is as at first (k, v are not looked at)");
        int[][] kv = {{0, 0}, {-1, 5}, {MIN, MAX}, {8, 1021}};
        for (int[] one : kv) {
            House h = reading();
            for (int k = 0; k < 8; k++) {
                h.set(0, k, 1000 + k);
            }
            for (int a = 0; a <= 1020; a += 255) {
                h.set(1, a, -1);
            }
            h.set(2, 0, 77);
            h.run(3);
            DUE.is("set(3, ..)", h.set(3, one[0], one[1]), true);
            DUE.is("the RUN is still told", h.state(false, 7), 1007);
            h.set(0, 4, 900);
            h.run(5000);
            DUE.is("no INPUT", h.state(false, 5), 0);
            for (int k : new int[] {1, 2, 3, 7}) {
                DUE.is("register " + k, h.state(false, k), 0);
            }
            for (int a = 0; a <= 1020; a += 255) {
                for (int more = 0; more < 4; more++) {
                    DUE.is("BYTE " + (a + more), h.data(false, a + more), 0);
                }
            }
            DUE.is("CODE stays", h.size() > 0, true);
            DUE.is("PROGRAM stays", h.place(2, 0), 6);
            DUE.is("DRAFT stays", h.clear(), 6);
        }
    }

    private static void setRegistersAsAtFirst() {
        DUE.sentence("14", "3: all is as at first");
        House h = standing();
        for (int k = 0; k < 8; k++) {
            h.set(0, k, 1000 + k);
        }
        h.set(3, 0, 0);
        h.run(1);
        for (int k = 0; k < 8; k++) {
            DUE.is("register " + k, h.state(false, k), 0);
        }
    }

    private static void setNoneSuch() {
        DUE.sentence("14", "False, and nothing happens, if there is none such");
        House h = standing();
        h.set(0, 0, 5);
        h.set(1, 0, 6);
        for (int sort : new int[] {-1, 4, 5, MIN, MAX}) {
            DUE.is("sort " + sort, h.set(sort, 0, 9), false);
        }
        h.set(0, -1, 9);
        h.set(0, 8, 9);
        h.set(1, -1, -1);
        h.set(1, 1021, -1);
        h.run(1);
        DUE.is("register 0", h.state(false, 0), 5);
        for (int k = 1; k < 8; k++) {
            DUE.is("register " + k, h.state(false, k), 0);
        }
        DUE.is("BYTE 0", h.data(false, 0), 6);
        for (int a : new int[] {1, 2, 3, 1020, 1021, 1022, 1023}) {
            DUE.is("BYTE " + a, h.data(false, a), 0);
        }
    }

    private static void setIsForLaterRuns() {
        DUE.sentence("14", "To begin with");
        House h = standing();
        h.set(0, 2, 1);
        h.run(1);
        h.set(0, 2, 7);
        h.set(1, 0, 7);
        DUE.is("what is told of a RUN stays: register", h.state(false, 2), 1);
        DUE.is("what is told of a RUN stays: DATA", h.data(false, 0), 0);
        h.run(1);
        DUE.is("the next RUN has it", h.state(false, 2), 7);
        h.tape(House.filled(32, 244));
        h.check();
        h.run(1);
        DUE.is("and so has that of another CODE", h.state(false, 2), 7);
        h.build();
        h.walk(1);
        DUE.is("and a WALK", h.state(true, 2), 7);
    }

    private static void runWithoutCode() {
        DUE.sentence("15", "IllegalStateException: there is no CODE");
        House h = new House();
        DUE.refuses("new", "IllegalStateException", () -> h.run(1));
        h.nops(1);
        h.feed(0, 0, 0, 0, 0);
        DUE.refuses("DRAFT and TAPE are none", "IllegalStateException", () -> h.run(5000));
        h.check();
        DUE.refuses("a FAULT makes none", "IllegalStateException", () -> h.run(1));
        h.build();
        DUE.is("then there is one", h.run(1), 0);
    }

    private static void runFuel() {
        DUE.sentence("15", "IllegalArgumentException: fuel is not 1 .. 5000");
        House h = House.holding(235, 254);
        for (int fuel : new int[] {0, -1, -5000, 5001, 5002, 10000, MIN, MAX}) {
            DUE.refuses("fuel " + fuel, "IllegalArgumentException", () -> h.run(fuel));
        }
        for (int fuel : new int[] {1, 2, 4999, 5000}) {
            DUE.is("fuel " + fuel, h.run(fuel), 0);
            DUE.is("STEPS", h.state(false, 13), fuel);
        }
    }

    private static void runRefusedChangesNothing() {
        DUE.sentence("Terms", "What is refused or throws changes nothing but what is told");
        House h = House.holding(64, 64, 64);
        h.run(2);
        for (int fuel : new int[] {0, 5001}) {
            DUE.refuses("run", "IllegalArgumentException", () -> h.run(fuel));
            DUE.refuses("walk", "IllegalStateException", () -> h.walk(1));
            DUE.refuses("state", NO_SUCH, () -> h.state(false, 18));
            DUE.refuses("output", NO_SUCH, () -> h.output(false, 0));
            DUE.refuses("decoded", NO_SUCH, () -> h.decoded(-1, 0));
            DUE.is("register 0", h.state(false, 0), 2);
            DUE.is("STEPS", h.state(false, 13), 2);
            DUE.is("STOP", h.state(false, 14), 0);
        }
    }

    private static void runBeginsAnew() {
        DUE.sentence("15", "with what set() told, FLAGS off, no OUTPUT");
        House h = new House();
        h.set(0, 4, 500);
        h.flow(2, 0, 0);
        h.flow(2, 0, 2);
        h.flow(2, 0, 4);
        h.flow(2, 0, 8);
        h.plain(17, 1, 3, 0, 0, 0);
        h.plain(8, 4, 3, DIRECT, 8, 0);
        h.flow(4, 1, 0);
        h.plain(8, 5, 7, 0, 0, MAX);
        h.plain(0, 2, 7, 7, 0, 0);
        h.plain(7, 5, 3, 0, 0, 2);
        h.flow(0, 0, 0);
        h.build();
        for (int turn = 0; turn < 3; turn++) {
            for (int k = 0; k < 2; k++) {
                boolean walk = k == 1;
                DUE.is("it ends", h.go(walk, 99), 1);
                DUE.is("register 3", h.state(walk, 3), 1);
                DUE.is("DATA", h.data(walk, 8), 1);
                DUE.is("OUTPUT", h.state(walk, 15), 1);
                DUE.is("C is on at the end", h.state(walk, 8), 1);
            }
        }
        h.clear();
        h.build();
        h.run(1);
        for (int f = 8; f <= 11; f++) {
            DUE.is("FLAG " + f + " off", h.state(false, f), 0);
        }
    }

    private static void runFrom256() {
        DUE.sentence("15", "A RUN of THE CODE from address 256 on");
        House h = House.holding(144, 64);
        h.run(1);
        DUE.is("behind the first STEP", h.state(false, 12), 257);
        h.run(2);
        DUE.is("behind the second", h.state(false, 12), 258);
        h.run(1);
        DUE.is("it begins anew", h.state(false, 12), 257);
    }

    /** A RUN that goes to this address, with the STACK'S at 500 and that WORD there. */
    private static House goingTo(int address, int word) {
        House h = House.holding(House.with(House.filled(64, 244), 0, GO_0));
        h.set(0, 0, address);
        h.set(0, 3, -7);
        h.set(0, 4, 500);
        h.set(1, 500, word);
        return h;
    }

    private static void serviceExit() {
        DUE.sentence("II", "0 EXIT .. (each a STEP; it stands there still)");
        House h = goingTo(0, 256);
        DUE.is("FUEL ahead of it", h.run(2), 0);
        DUE.is("it is at 0", h.state(false, 12), 0);
        DUE.is("EXIT", h.run(3), 2);
        DUE.is("it stands at 0", h.state(false, 12), 0);
        DUE.is("STEPS", h.state(false, 13), 3);
        DUE.is("nothing is popped", h.state(false, 4), 500);
        DUE.is("with more FUEL", h.run(5000), 2);
        DUE.is("as many STEPS", h.state(false, 13), 3);
        h.set(0, 4, -1);
        DUE.is("no WORD is wanted", h.run(50), 2);
    }

    private static void serviceOut() {
        DUE.sentence("II", "16 OUT: register 3 comes to the OUTPUT");
        House h = goingTo(16, 272);
        DUE.is("run", h.run(50), 1);
        DUE.is("OUTPUT", h.state(false, 15), 1);
        DUE.is("number 0", h.output(false, 0), -7);
        DUE.is("register 3 stays", h.state(false, 3), -7);
        DUE.is("the STACK'S", h.state(false, 4), 504);
        DUE.is("it is at", h.state(false, 12), 272);
        DUE.is("STEPS", h.state(false, 13), 4);
        DUE.is("register 0 stays", h.state(false, 0), 16);
    }

    private static void serviceIn() {
        DUE.sentence("II", "32 IN: register 0 becomes the next number of the INPUT, 0 if there is none");
        House h = goingTo(32, 272);
        DUE.is("run", h.run(50), 1);
        DUE.is("none", h.state(false, 0), 0);
        h.set(2, 0, MIN);
        DUE.is("run", h.run(50), 1);
        DUE.is("one", h.state(false, 0), MIN);
        h.set(1, 500, 32);
        h.set(1, 504, 272);
        DUE.is("run", h.run(50), 1);
        DUE.is("behind the last one", h.state(false, 0), 0);
        h.set(2, 0, 6);
        DUE.is("run", h.run(50), 1);
        DUE.is("the second one", h.state(false, 0), 6);
        DUE.is("no OUTPUT", h.state(false, 15), 0);
    }

    private static void serviceCount() {
        DUE.sentence("II", "48 COUNT: register 0 becomes how many numbers the OUTPUT has");
        House h = goingTo(48, 272);
        DUE.is("run", h.run(50), 1);
        DUE.is("none", h.state(false, 0), 0);
        h.set(0, 0, 16);
        h.set(1, 500, 16);
        h.set(1, 504, 48);
        h.set(1, 508, 272);
        DUE.is("run", h.run(50), 1);
        DUE.is("two", h.state(false, 0), 2);
        DUE.is("they stay", h.state(false, 15), 2);
    }

    private static void servicePops() {
        DUE.sentence("II", "behind these three it POPS an address, and goes on there, its lowest four bits off");
        for (int service = 16; service <= 48; service += 16) {
            for (int low = 0; low < 16; low++) {
                House h = goingTo(service + low, 304 + low);
                DUE.is("run", h.run(50), 1);
                DUE.is("it is at", h.state(false, 12), 304);
                DUE.is("the STACK'S", h.state(false, 4), 504);
            }
            House exit = goingTo(service, 15);
            DUE.is("15 is EXIT", exit.run(50), 2);
            House wild = goingTo(service, -1);
            DUE.is("-1 is -16", wild.run(50), 4);
            DUE.is("it is at", wild.state(false, 12), -16);
            DUE.is("STEPS", wild.state(false, 13), 3);
            DUE.is("FLAGS stay as AND left them", wild.state(false, 9), 0);
        }
    }

    private static void serviceWithoutAWord() {
        DUE.sentence("II", "3 DATA: a WORD that it wants is not there");
        for (int service = 16; service <= 48; service += 16) {
            for (int stack : new int[] {-1, -4, 1021, 1024, MIN, MAX}) {
                House h = goingTo(service, 272);
                h.set(0, 4, stack);
                h.set(2, 0, 9);
                DUE.is("SERVICE " + service + " with " + stack, h.run(50), 3);
                DUE.is("it stands there", h.state(false, 12), service);
                DUE.is("STEPS", h.state(false, 13), 2);
                DUE.is("nothing is changed: register 0", h.state(false, 0), service);
                DUE.is("nothing is changed: the STACK'S", h.state(false, 4), stack);
                DUE.is("nothing is changed: OUTPUT", h.state(false, 15), 0);
            }
            for (int stack : new int[] {0, 1020}) {
                House h = goingTo(service, 0);
                h.set(0, 4, stack);
                h.set(1, stack, 272);
                DUE.is("SERVICE " + service + " with " + stack, h.run(50), 1);
                DUE.is("the STACK'S", h.state(false, 4), stack + 4);
            }
        }
    }

    private static void stopFuel() {
        DUE.sentence("II", "0 FUEL: as many STEPS as it may were done (ahead of all others)");
        House data = House.holding(144, 139, 5, 255, 255, 255, 255);
        DUE.is("ahead of DATA", data.run(1), 0);
        DUE.is("DATA", data.run(2), 3);
        House wild = House.holding(House.filled(16, 144));
        DUE.is("ahead of WILD", wild.run(16), 0);
        DUE.is("it is at", wild.state(false, 12), 272);
        DUE.is("WILD", wild.run(17), 4);
        House halt = House.holding(144);
        DUE.is("ahead of HALT", halt.run(1), 0);
        DUE.is("HALT", halt.run(2), 1);
        House full = looping();
        DUE.is("ahead of FULL", full.run(fullSteps()), 0);
        DUE.is("it is at OUT", full.state(false, 12), 16);
        DUE.is("FULL", full.run(fullSteps() + 1), 6);
    }

    /** INC 3 and OUT again and again. */
    private static House looping() {
        House h = new House();
        h.set(0, 4, 900);
        h.flow(0, 0, 0);
        h.plain(17, 1, 3, 0, 0, 0);
        h.flow(4, 1, 0);
        h.flow(1, 0, 0);
        h.build();
        return h;
    }

    /** A hundred times INC, ten NOPS, CALL, OUT, JUMP; then up to OUT once more. */
    private static int fullSteps() {
        return 100 * 14 + 12;
    }

    private static void stopHalt() {
        DUE.sentence("II", "1 HALT .. (each a STEP; it stands there still)");
        House h = House.holding(64, 244, 64);
        DUE.is("HALT", h.run(50), 1);
        DUE.is("STEPS", h.state(false, 13), 2);
        DUE.is("it stands there", h.state(false, 12), 257);
        DUE.is("nothing behind it is done", h.state(false, 0), 1);
        DUE.is("with just enough FUEL", h.run(2), 1);
        House first = House.holding(244);
        DUE.is("at once", first.run(1), 1);
        DUE.is("STEPS", first.state(false, 13), 1);
        DUE.is("it stands at", first.state(false, 12), 256);
    }

    private static void stopData() {
        DUE.sentence("Terms", "a WORD .. is there if a is 0 .. 1020");
        int[][] opForms = {{0, 3}, {1, 4}, {2, 6}, {3, 3}, {4, 4}, {5, 6}, {6, 3}, {7, 4}, {7, 6}, {8, 3}, {8, 4}, {8, 6}, {9, 4}, {11, 3},
            {12, 7}, {13, 7}, {14, 6}, {15, 6}, {16, 6}};
        for (int[] one : opForms) {
            for (int a : new int[] {-4, -1, 0, 1, 1019, 1020, 1021, 1023, 1024, MIN, MAX}) {
                House h = new House();
                h.set(0, 5, a);
                h.plain(one[0], one[1], 2, 5 + 128, 0, 1);
                h.build();
                boolean is = a >= 0 && a <= 1020;
                for (int k = 0; k < 2; k++) {
                    DUE.is("OP " + one[0] + " FORM " + one[1] + " at " + a, h.go(k == 1, 9), is ? 1 : 3);
                }
            }
        }
        House lea = new House();
        lea.plain(10, 3, 2, DIRECT, -1, 0);
        lea.build();
        DUE.is("LEA has no access", lea.run(9), 1);
        DUE.is("the address", lea.state(false, 2), -1);
    }

    private static void stopDataChangesNothing() {
        DUE.sentence("II", "Without a STEP, nothing being changed: 3 DATA");
        int[][] plains = {{0, 3, 2, DIRECT, 1021, 0}, {0, 4, 2, DIRECT, 1021, 0}, {0, 6, 0, DIRECT, -1, 5}, {11, 3, 2, DIRECT, 1021, 0}, {13, 7, 0, DIRECT, -1, 0},
            {14, 6, 0, DIRECT, -1, 1}, {8, 3, 2, DIRECT, 1021, 0}, {19, 1, 2, 0, 0, 0}, {19, 8, 0, 0, 0, 9}, {20, 1, 2, 0, 0, 0}, {20, 1, 4, 0, 0, 0}};
        for (int[] p : plains) {
            House h = new House();
            h.set(0, 2, 77);
            h.set(0, 4, -2);
            h.set(1, 0, -1);
            h.set(1, 1020, -1);
            h.plain(7, 5, 7, 0, 0, 1);
            h.plain(p[0], p[1], p[2], p[3], p[4], p[5]);
            h.build();
            for (int k = 0; k < 2; k++) {
                boolean walk = k == 1;
                String what = "OP " + p[0] + " FORM " + p[1];
                DUE.is(what, h.go(walk, 9), 3);
                DUE.is(what + ": STEPS", h.state(walk, 13), 1);
                DUE.is(what + ": it is at", h.state(walk, 12), 259);
                DUE.is(what + ": register 2", h.state(walk, 2), 77);
                DUE.is(what + ": the STACK'S", h.state(walk, 4), -2);
                DUE.is(what + ": C", h.state(walk, 8), 1);
                DUE.is(what + ": Z", h.state(walk, 9), 0);
                DUE.is(what + ": S", h.state(walk, 10), 1);
                DUE.is(what + ": DATA", h.word(walk, 0), -1);
                DUE.is(what + ": DATA", h.word(walk, 1020), -1);
            }
        }
    }

    private static void stopWild() {
        DUE.sentence("II", "4 WILD: it is at another address");
        int[] wild = {64, 80, 128, 240, 320, 336, 1264, 1280, 4096, -16, -256, MIN, MIN + 256, MAX & -16};
        for (int to : wild) {
            for (int low : new int[] {0, 1, 15}) {
                House h = goingTo(to + low, 0);
                DUE.is("to " + to, h.run(50), 4);
                DUE.is("it is at", h.state(false, 12), to);
                DUE.is("STEPS", h.state(false, 13), 2);
                DUE.is("register 0", h.state(false, 0), to);
            }
        }
        for (int to : new int[] {272, 288, 304}) {
            DUE.is("but " + to + " is of THE CODE", goingTo(to, 0).run(50), 1);
        }
        int[] most = House.with(House.filled(1024, 244), 0, GO_0);
        for (int to : new int[] {1264, 1279, 1280}) {
            House h = new House();
            h.tape(most);
            h.check();
            h.set(0, 0, to);
            DUE.is("of the longest CODE, " + to, h.run(50), to < 1280 ? 1 : 4);
        }
    }

    private static void stopFull() {
        DUE.sentence("II", "6 FULL: OUT with 100 in the OUTPUT");
        House h = looping();
        for (int k = 0; k < 2; k++) {
            boolean walk = k == 1;
            DUE.is("FULL", h.go(walk, 5000), 6);
            DUE.is("OUTPUT", h.state(walk, 15), 100);
            DUE.is("the last one", h.output(walk, 99), 100);
            DUE.refuses("no number 100", NO_SUCH, () -> h.output(walk, 100));
            DUE.is("it is at OUT", h.state(walk, 12), 16);
            DUE.is("nothing popped", h.state(walk, 4), 896);
            DUE.is("register 3", h.state(walk, 3), 101);
        }
        DUE.is("STEPS", h.state(false, 13), fullSteps());
        House other = new House();
        other.set(0, 4, 900);
        other.flow(0, 0, 0);
        other.flow(4, 1, 0);
        other.flow(4, 3, 0);
        other.plain(7, 5, 0, 0, 0, 100);
        other.flow(2, 0, 5);
        other.flow(4, 2, 0);
        other.flow(4, 3, 0);
        other.build();
        for (int k = 0; k < 2; k++) {
            DUE.is("the hundredth one, IN and COUNT are not FULL", other.go(k == 1, 5000), 1);
            DUE.is("COUNT", other.state(k == 1, 0), 100);
        }
    }

    private static void stopDataAheadOfFull() {
        DUE.sentence("II", "(DATA ahead of FULL)");
        House h = goingTo(16, 16);
        h.set(0, 4, 1024 - 400);
        for (int a = 1024 - 400; a <= 1020; a += 4) {
            h.set(1, a, 16);
        }
        DUE.is("DATA", h.run(500), 3);
        DUE.is("OUTPUT", h.state(false, 15), 100);
        DUE.is("the STACK'S", h.state(false, 4), 1024);
        h.set(0, 4, 1024 - 404);
        h.set(1, 1024 - 404, 16);
        DUE.is("FULL, if there is a WORD", h.run(500), 6);
        DUE.is("the STACK'S", h.state(false, 4), 1020);
    }

    private static void stateWhats() {
        DUE.sentence("17", "what 0 .. 7: a register .. 8 C, 9 Z, 10 S, 11 O .. 12: the address .. 13: STEPS, 14 .. 15 .. 16 .. 17");
        House h = new House();
        for (int k = 0; k < 8; k++) {
            h.set(0, k, 900 + k);
        }
        h.flow(4, 1, 0);
        h.plain(7, 5, 0, 0, 0, 901);
        h.build();
        h.run(50);
        int[] want = {900, 901, 902, 903, 904, 905, 906, 907, 1, 0, 1, 0, 256 + 22, 15, 1, 1, 0, 0};
        for (int what = 0; what < want.length; what++) {
            DUE.is("what " + what, h.state(false, what), want[what]);
        }
        h.walk(50);
        want[13] = 4;
        for (int what = 0; what < want.length; what++) {
            DUE.is("what " + what + " of a WALK", h.state(true, what), want[what]);
        }
        int[][] flags = {{5, 5, 0, 1, 0, 0}, {5, 6, 1, 0, 1, 0}, {MIN, 1, 0, 0, 0, 1}, {MAX, -1, 1, 0, 1, 1}};
        for (int[] f : flags) {
            House one = new House();
            one.set(0, 6, f[0]);
            one.plain(7, 5, 6, 0, 0, f[1]);
            one.build();
            one.run(5);
            one.walk(5);
            for (int k = 0; k < 4; k++) {
                DUE.is("FLAG " + k + " of CMP " + f[0] + ", " + f[1], one.state(false, 8 + k), f[2 + k]);
                DUE.is("FLAG " + k + " of a WALK", one.state(true, 8 + k), f[2 + k]);
            }
        }
    }

    private static void stateNoSuch() {
        DUE.sentence("17", "NoSuchElementException: there is none, or no such what");
        House h = new House();
        for (int what : new int[] {0, 12, 14, 17, -1, 18}) {
            DUE.refuses("no RUN, what " + what, NO_SUCH, () -> h.state(false, what));
            DUE.refuses("no WALK, what " + what, NO_SUCH, () -> h.state(true, what));
        }
        h.build();
        DUE.refuses("CODE, but no RUN", NO_SUCH, () -> h.state(false, 0));
        DUE.refuses("PROGRAM, but no WALK", NO_SUCH, () -> h.state(true, 0));
        h.run(1);
        DUE.refuses("a RUN is no WALK", NO_SUCH, () -> h.state(true, 0));
        h.walk(1);
        for (int what : new int[] {-1, 18, 19, MIN, MAX}) {
            DUE.refuses("what " + what, NO_SUCH, () -> h.state(false, what));
            DUE.refuses("what " + what + " of a WALK", NO_SUCH, () -> h.state(true, what));
        }
        House walked = new House();
        walked.build();
        walked.walk(1);
        DUE.refuses("a WALK is no RUN", NO_SUCH, () -> walked.state(false, 14));
    }

    private static void stateOfTheLatest() {
        DUE.sentence("17", "Of the latest RUN (walk false) or WALK of this CODE");
        House h = new House();
        h.nops(5);
        h.build();
        h.run(2);
        h.walk(3);
        DUE.is("the RUN", h.state(false, 13), 2);
        DUE.is("the WALK", h.state(true, 13), 3);
        h.run(4);
        DUE.is("the later RUN", h.state(false, 13), 4);
        DUE.is("the WALK still", h.state(true, 13), 3);
        h.walk(1);
        DUE.is("the RUN still", h.state(false, 13), 4);
        DUE.is("the later WALK", h.state(true, 13), 1);
    }

    private static void dataInside() {
        DUE.sentence("18", "BYTE a of the DATA behind the latest RUN or WALK of this CODE");
        House h = new House();
        h.set(1, 0, 0xFF8001);
        h.plain(8, 6, 0, DIRECT, 1020, 0x80FF7F01);
        h.build();
        h.run(9);
        int[] at = {0, 1, 2, 3, 1019, 1020, 1021, 1022, 1023};
        int[] want = {1, 0x80, 0xFF, 0, 0, 1, 0x7F, 0xFF, 0x80};
        for (int k = 0; k < at.length; k++) {
            DUE.is("BYTE " + at[k], h.data(false, at[k]), want[k]);
            DUE.is("of no WALK", h.data(true, at[k]), -1);
        }
        h.walk(9);
        for (int k = 0; k < at.length; k++) {
            DUE.is("BYTE " + at[k] + " of the WALK", h.data(true, at[k]), want[k]);
        }
        h.set(3, 0, 0);
        DUE.is("set() changes nothing here", h.data(false, 2), 0xFF);
        h.run(9);
        DUE.is("of the latest RUN", h.data(false, 2), 0);
        DUE.is("the WALK was ahead of it", h.data(true, 2), 0xFF);
    }

    private static void dataNoneSuch() {
        DUE.sentence("18", "NONE if there is none such");
        House h = new House();
        h.set(1, 0, 5);
        DUE.is("no RUN", h.data(false, 0), -1);
        DUE.is("no WALK", h.data(true, 0), -1);
        h.build();
        DUE.is("CODE, but no RUN", h.data(false, 0), -1);
        DUE.is("PROGRAM, but no WALK", h.data(true, 0), -1);
        h.run(1);
        h.walk(1);
        for (int a : new int[] {-1, -1024, 1024, 1025, 2048, MIN, MAX}) {
            DUE.is("BYTE " + a, h.data(false, a), -1);
            DUE.is("BYTE " + a + " of a WALK", h.data(true, a), -1);
        }
    }

    private static void outputInside() {
        DUE.sentence("19", "Number i of its OUTPUT");
        House h = looping();
        h.run(5000);
        h.walk(11);
        for (int i = 0; i < 100; i++) {
            DUE.is("number " + i, h.output(false, i), i + 1);
        }
        for (int i = 0; i < 3; i++) {
            DUE.is("number " + i + " of the WALK", h.output(true, i), i + 1);
        }
        DUE.refuses("the WALK has three", NO_SUCH, () -> h.output(true, 3));
        h.run(14 + 13);
        DUE.refuses("of the latest RUN", NO_SUCH, () -> h.output(false, 2));
        DUE.is("it has two", h.output(false, 1), 2);
        h.set(0, 3, -2);
        h.run(13);
        DUE.is("a number below 0", h.output(false, 0), -1);
        DUE.refuses("it has one", NO_SUCH, () -> h.output(false, 1));
    }

    private static void outputNoneSuch() {
        DUE.sentence("19", "NoSuchElementException: there is none such");
        House h = looping();
        for (int i : new int[] {-1, 0, 1, MIN, MAX}) {
            DUE.refuses("no RUN: number " + i, NO_SUCH, () -> h.output(false, i));
            DUE.refuses("no WALK: number " + i, NO_SUCH, () -> h.output(true, i));
        }
        h.run(12);
        h.walk(2);
        DUE.refuses("none yet", NO_SUCH, () -> h.output(false, 0));
        DUE.refuses("none yet of the WALK", NO_SUCH, () -> h.output(true, 0));
        h.run(13);
        h.walk(3);
        for (int k = 0; k < 2; k++) {
            boolean walk = k == 1;
            DUE.is("number 0", h.output(walk, 0), 1);
            for (int i : new int[] {-1, 1, 2, 99, 100, MIN, MAX}) {
                DUE.refuses("number " + i, NO_SUCH, () -> h.output(walk, i));
            }
        }
        House ran = looping();
        ran.run(13);
        DUE.refuses("a RUN'S is no WALK'S", NO_SUCH, () -> ran.output(true, 0));
    }

    private static void upToTheLastCall() {
        DUE.sentence("What it is", "An object is used for at most 512 calls after it has been made");
        House full = looping();
        while (full.callsLeft() > 2) {
            DUE.is("a RUN as dear as any", full.run(5000), 6);
        }
        DUE.is("call 511", full.walk(5000), 6);
        DUE.is("call 512", full.output(true, 99), 100);
        House built = new House();
        built.nops(119);
        built.flow(0, 0, 0);
        while (built.callsLeft() > 2) {
            DUE.is("a build as dear as any", built.build(), 0);
        }
        DUE.is("call 511", built.size(), 128);
        DUE.is("call 512", built.run(200), 1);
        House fed = new House();
        int[] most = House.filled(1024, 144);
        while (fed.callsLeft() > 60) {
            fed.tape(most);
            DUE.is("a check as dear as any", fed.check(), 0);
        }
        while (fed.callsLeft() > 1) {
            fed.set(3, 0, 0);
        }
        DUE.is("call 512", fed.code(1023), 144);
    }
}
