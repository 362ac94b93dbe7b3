/** Ways to bring a house to where a test begins. */
final class Houses {
    static final int NOP = 144;
    static final int HALT = 244;

    private Houses() {
    }

    /** These BYTES are all that is on the TAPE then. */
    static void tape(BundleHouse house, int... bytes) {
        house.end(0);
        for (int at = 0; at < bytes.length; at += 20) {
            house.feed(four(bytes, at), four(bytes, at + 4), four(bytes, at + 8), four(bytes, at + 12), four(bytes, at + 16));
        }
        house.end(bytes.length);
    }

    private static int four(int[] bytes, int at) {
        int number = 0;
        for (int k = 0; k < 4; k++) {
            number = number << 8 | (at + k < bytes.length ? bytes[at + k] & 255 : 0);
        }
        return number;
    }

    /** The BYTES, and the filling up to the next BUNDLE'S end. */
    static int[] padded(int filling, int... bytes) {
        int[] whole = new int[(bytes.length + 15) / 16 * 16];
        for (int k = 0; k < whole.length; k++) {
            whole[k] = k < bytes.length ? bytes[k] : filling;
        }
        return whole;
    }

    static int[] filled(int n, int filling) {
        int[] whole = new int[n];
        java.util.Arrays.fill(whole, filling);
        return whole;
    }

    static int[] with(int[] bytes, int at, int... more) {
        int[] whole = bytes.clone();
        System.arraycopy(more, 0, whole, at, more.length);
        return whole;
    }

    /** A house whose CODE is these BYTES and HALTS behind them. */
    static BundleHouse holding(int... bytes) {
        BundleHouse house = new BundleHouse();
        tape(house, padded(HALT, bytes));
        if (house.check() != 0) {
            System.out.println("the CODE of a test doesn't keep the POLICY: FAULT " + house.fault(0) + " at " + house.fault(1));
            System.exit(1);
        }
        return house;
    }
}
