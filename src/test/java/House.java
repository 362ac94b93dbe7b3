/**
 * A BundleHouse that a test uses: nothing is promised about an object after its 512th call, so no test may
 * lean on more of them.
 */
final class House {
    static final int NOP = 144;
    static final int HALT = 244;
    private static final int CALLS_MOST = 512;

    private final BundleHouse house = new BundleHouse();
    private int calls;

    private BundleHouse used() {
        calls++;
        if (calls > CALLS_MOST) {
            throw new AssertionError("a test uses an object for more than 512 calls");
        }
        return house;
    }

    int callsLeft() {
        return CALLS_MOST - calls;
    }

    boolean feed(int a, int b, int c, int d, int e) {
        return used().feed(a, b, c, d, e);
    }

    boolean end(int n) {
        return used().end(n);
    }

    int check() {
        return used().check();
    }

    int fault(int what) {
        return used().fault(what);
    }

    int plain(int op, int form, int r, int x, int d, int i) {
        return used().plain(op, form, r, x, d, i);
    }

    int flow(int sort, int a, int b) {
        return used().flow(sort, a, b);
    }

    int clear() {
        return used().clear();
    }

    int build() {
        return used().build();
    }

    int size() {
        return used().size();
    }

    int code(int i) {
        return used().code(i);
    }

    int decoded(int place, int what) {
        return used().decoded(place, what);
    }

    int place(int sort, int k) {
        return used().place(sort, k);
    }

    boolean set(int sort, int k, int v) {
        return used().set(sort, k, v);
    }

    int run(int fuel) {
        return used().run(fuel);
    }

    int walk(int fuel) {
        return used().walk(fuel);
    }

    int go(boolean walk, int fuel) {
        return walk ? walk(fuel) : run(fuel);
    }

    int state(boolean walk, int what) {
        return used().state(walk, what);
    }

    int data(boolean walk, int a) {
        return used().data(walk, a);
    }

    int output(boolean walk, int i) {
        return used().output(walk, i);
    }

    /** The WORD at a, of four calls. */
    int word(boolean walk, int a) {
        int word = 0;
        for (int k = 3; k >= 0; k--) {
            word = word << 8 | data(walk, a + k) & 255;
        }
        return word;
    }

    /** n NOPS more in THE DRAFT. */
    void nops(int n) {
        for (int k = 0; k < n; k++) {
            plain(21, 0, 0, 0, 0, 0);
        }
    }

    /** These BYTES are all that is on the TAPE then. */
    void tape(int... bytes) {
        end(0);
        for (int at = 0; at < bytes.length; at += 20) {
            feed(four(bytes, at), four(bytes, at + 4), four(bytes, at + 8), four(bytes, at + 12), four(bytes, at + 16));
        }
        end(bytes.length);
    }

    private static int four(int[] bytes, int at) {
        int number = 0;
        for (int k = 0; k < 4; k++) {
            number = number << 8 | (at + k < bytes.length ? bytes[at + k] & 255 : 0);
        }
        return number;
    }

    /** A house whose CODE is these BYTES and HALTS behind them. */
    static House holding(int... bytes) {
        House h = new House();
        h.tape(padded(HALT, bytes));
        if (h.check() != 0) {
            System.out.println("the CODE of a test doesn't keep the POLICY: FAULT " + h.fault(0) + " at " + h.fault(1));
            System.exit(1);
        }
        return h;
    }

    /** The BYTES, and the filling up to the next BUNDLE'S end. */
    static int[] padded(int filling, int... bytes) {
        int[] whole = filled((bytes.length + 15) / 16 * 16, filling);
        return with(whole, 0, bytes);
    }

    static int[] filled(int n, int filling) {
        int[] whole = new int[n];
        java.util.Arrays.fill(whole, filling);
        return whole;
    }

    static int[] with(int[] bytes, int at, int... more) {
        int[] whole = bytes.clone();
        System.arraycopy(more, 0, whole, at, more.length);
        return whole;
    }
}
