/** Promises 1, 2 and 3: a new object, feed, end. */
final class TapeTest {
    private static final Due DUE = new Due();

    public static void main(String[] args) {
        newObject();
        feedToTheBrim();
        endCuts();
        order();
        DUE.end();
    }

    private static void newObject() {
        House h = new House();
        DUE.is("NONE", BundleHouse.NONE, -1);
        DUE.is("new: size", h.size(), 0);
        DUE.is("new: code", h.code(0), -1);
        DUE.is("new: fault(0)", h.fault(0), 0);
        DUE.is("new: fault(1)", h.fault(1), -1);
        DUE.is("new: fault(2)", h.fault(2), -1);
        DUE.is("new: place(0, 0)", h.place(0, 0), -1);
        DUE.is("new: place(1, 0)", h.place(1, 0), -1);
        DUE.is("new: place(2, 0)", h.place(2, 0), -1);
        DUE.is("new: data(run)", h.data(false, 0), -1);
        DUE.is("new: data(walk)", h.data(true, 0), -1);
        DUE.refuses("new: decoded", "NoSuchElementException", () -> h.decoded(0, 0));
        DUE.refuses("new: run", "IllegalStateException", () -> h.run(1));
        DUE.refuses("new: walk", "IllegalStateException", () -> h.walk(1));
        DUE.refuses("new: state(run)", "NoSuchElementException", () -> h.state(false, 0));
        DUE.refuses("new: state(walk)", "NoSuchElementException", () -> h.state(true, 0));
        DUE.refuses("new: output", "NoSuchElementException", () -> h.output(false, 0));
        DUE.is("new: clear", h.clear(), 0);
        DUE.is("new: end(1)", h.end(1), false);
        DUE.is("new: end(0)", h.end(0), true);
        beginsWithNothing();
    }

    private static void beginsWithNothing() {
        House h = House.holding(House.HALT);
        h.run(1);
        for (int k = 0; k < 12; k++) {
            DUE.is("new: register or FLAG " + k, h.state(false, k), 0);
        }
        for (int a = 0; a < 1024; a++) {
            if (h.callsLeft() == 0) {
                h = House.holding(House.HALT);
                h.run(1);
            }
            DUE.is("new: data " + a, h.data(false, a), 0);
        }
    }

    private static void feedToTheBrim() {
        House h = new House();
        for (int k = 0; k < 55; k++) {
            DUE.is("feed " + k, h.feed(k, k, k, k, k), true);
        }
        DUE.is("feed beyond 1100", h.feed(1, 1, 1, 1, 1), false);
        DUE.is("end(1101)", h.end(1101), false);
        DUE.is("end(1100)", h.end(1100), true);
        DUE.is("end(1081)", h.end(1081), true);
        DUE.is("feed to 1101", h.feed(1, 1, 1, 1, 1), false);
        DUE.is("nothing came", h.end(1082), false);
        DUE.is("end(1080)", h.end(1080), true);
        DUE.is("feed to 1100", h.feed(1, 1, 1, 1, 1), true);
        DUE.is("it came", h.end(1100), true);
        DUE.is("1100 are too many", h.check(), 1);
        DUE.is("at 1100", h.fault(1), 1100);
        DUE.is("empty again", h.end(1), false);
    }

    private static void endCuts() {
        House h = new House();
        h.feed(0, 0, 0, 0, 0);
        DUE.is("end(21)", h.end(21), false);
        DUE.is("end(-1)", h.end(-1), false);
        DUE.is("end(MIN)", h.end(Integer.MIN_VALUE), false);
        DUE.is("end(20)", h.end(20), true);
        DUE.is("end(7)", h.end(7), true);
        DUE.is("end(8) behind end(7)", h.end(8), false);
        DUE.is("check tells n", h.check(), 1);
        DUE.is("n", h.fault(1), 7);
    }

    private static void order() {
        House h = new House();
        h.feed(0xB8010203, 0x04BFF0F1, 0xF2F3684A, 0x4B4C4DF4, 0x12345678);
        DUE.is("end(16)", h.end(16), true);
        DUE.is("check", h.check(), 0);
        int[] want = {0xB8, 1, 2, 3, 4, 0xBF, 0xF0, 0xF1, 0xF2, 0xF3, 0x68, 0x4A, 0x4B, 0x4C, 0x4D, 0xF4};
        DUE.is("size", h.size(), 16);
        for (int k = 0; k < 16; k++) {
            DUE.is("code " + k, h.code(k), want[k]);
        }
        DUE.is("code(-1)", h.code(-1), -1);
        DUE.is("code(16)", h.code(16), -1);
        DUE.is("code(MAX)", h.code(Integer.MAX_VALUE), -1);
        behindEnd();
    }

    private static void behindEnd() {
        House h = new House();
        h.feed(0x90909090, -1, -1, -1, -1);
        h.end(4);
        h.feed(0x90909090, 0x90909090, 0xF4F4F4F4, 0, 0);
        h.end(16);
        DUE.is("feed goes on behind end", h.check(), 0);
        DUE.is("code 4", h.code(4), 0x90);
        DUE.is("code 12", h.code(12), 0xF4);
    }
}
