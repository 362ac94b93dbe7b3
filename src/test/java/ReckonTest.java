import java.math.BigInteger;

/** Promise 15 (and 16): what each OP that reckons gives, and its FLAGS, against numbers that never wrap. */
final class ReckonTest {
    private static final Due DUE = new Due();
    private static final int[] VALUES = {
        0, 1, 2, 3, -1, -2, 5, 31, 127, -128, 65535, 65536, 0x55555555, 0xAAAAAAAA,
        Integer.MAX_VALUE, Integer.MAX_VALUE - 1, Integer.MIN_VALUE, Integer.MIN_VALUE + 1
    };
    private static final int AT = 100;
    private static final int NOWHERE = 136;

    private static long result;
    private static boolean carry;
    private static boolean overflow;
    /** -1: the FLAG stays. */
    private static int[] flags;

    public static void main(String[] args) {
        for (int op : new int[] {0, 1, 2, 3, 4, 5, 6, 7, 9, 11}) {
            for (int left : VALUES) {
                for (int right : VALUES) {
                    for (int c = 0; c < 2; c++) {
                        two(op, left, right, c);
                    }
                }
            }
        }
        for (int op : new int[] {12, 13, 17, 18}) {
            for (int left : VALUES) {
                for (int c = 0; c < 2; c++) {
                    one(op, left, c);
                }
            }
        }
        for (int op = 14; op <= 16; op++) {
            for (int left : VALUES) {
                for (int by : new int[] {0, 1, 2, 15, 30, 31, 32, 33, 63, 64, 128, 254, 255}) {
                    shift(op, left, by, 0);
                    shift(op, left, by, 1);
                }
            }
        }
        DUE.end();
    }

    /** A house that has C on or off, register 2 and the WORD at 100 left, register 3 and the WORD at 200 right. */
    private static House house(int left, int right, int c) {
        House h = new House();
        h.set(0, 2, left);
        h.set(0, 3, right);
        h.set(1, AT, left);
        h.set(1, 200, right);
        h.set(0, 7, c == 1 ? 0 : 9);
        h.plain(7, 5, 7, 0, 0, 1);
        return h;
    }

    private static void two(int op, int left, int right, int c) {
        reckon(op, left, right, c);
        String what = "OP " + op + " of " + left + ", " + right + " with C " + c;
        for (int form = 2; form <= 6; form++) {
            boolean has = op <= 8 || op == 9 && (form == 2 || form == 4) || op == 11 && form <= 3;
            if (has) {
                House h = house(left, right, c);
                h.plain(op, form, form == 4 ? 3 : 2, form == 2 ? 3 : NOWHERE, form == 3 ? 200 : AT, right);
                ends(what + " FORM " + form, h, c, form == 4 || form == 6);
            }
        }
    }

    private static void one(int op, int left, int c) {
        reckon(op, left, 0, c);
        String what = "OP " + op + " of " + left + " with C " + c;
        House h = house(left, 0, c);
        h.plain(op, 1, 2, 0, 0, 0);
        ends(what, h, c, false);
        if (op < 17) {
            House word = house(left, 0, c);
            word.plain(op, 7, 0, NOWHERE, AT, 0);
            ends(what + " of a WORD", word, c, true);
        }
    }

    private static void shift(int op, int left, int by, int c) {
        reckon(op, left, by, c);
        String what = "OP " + op + " of " + left + " by " + by + " with C " + c;
        House h = house(left, 0, c);
        h.plain(op, 5, 2, 0, 0, by);
        ends(what, h, c, false);
        House word = house(left, 0, c);
        word.plain(op, 6, 0, NOWHERE, AT, by);
        ends(what + " of a WORD", word, c, true);
    }

    private static void ends(String what, House h, int c, boolean inWord) {
        DUE.is(what + ": build", h.build(), 0);
        DUE.is(what + ": run", h.run(9), 1);
        DUE.is(what + ": walk", h.walk(9), 1);
        for (int k = 0; k < 2; k++) {
            boolean walk = k == 1;
            int word = 0;
            for (int a = 3; a >= 0; a--) {
                word = word << 8 | h.data(walk, AT + a);
            }
            DUE.is(what + ": result", inWord ? word : h.state(walk, 2), (int) result);
            // What CMP left: 0 less 1, or 9 less 1.
            int[] ahead = {c, 0, c, 0};
            for (int f = 0; f < 4; f++) {
                DUE.is(what + ": FLAG " + f, h.state(walk, 8 + f), flags[f] < 0 ? ahead[f] : flags[f]);
            }
        }
    }

    private static BigInteger signed(long v) {
        return BigInteger.valueOf(v);
    }

    private static BigInteger unsigned(int v) {
        return BigInteger.valueOf(v & 0xFFFFFFFFL);
    }

    private static boolean isNoInt(BigInteger v) {
        return v.bitLength() > 31;
    }

    private static void reckon(int op, int left, int right, int c) {
        carry = false;
        overflow = false;
        int taken = op == 2 || op == 3 ? c : 0;
        boolean carryStays = op == 17 || op == 18;
        int other = carryStays ? 1 : right;
        int from = op == 13 ? 0 : left;
        int less = op == 13 ? left : other;
        if (op == 0 || op == 2 || op == 17) {
            BigInteger sum = signed(left).add(signed(other)).add(signed(taken));
            result = sum.intValue();
            carry = unsigned(left).add(unsigned(other)).add(signed(taken)).bitLength() > 32;
            overflow = isNoInt(sum);
        } else if (op == 3 || op == 5 || op == 7 || op == 13 || op == 18) {
            BigInteger difference = signed(from).subtract(signed(less)).subtract(signed(taken));
            result = difference.intValue();
            carry = unsigned(from).subtract(unsigned(less)).subtract(signed(taken)).signum() < 0;
            overflow = isNoInt(difference);
        } else if (op == 11) {
            BigInteger product = signed(left).multiply(signed(right));
            result = product.intValue();
            carry = isNoInt(product);
            overflow = carry;
        } else if (op == 12) {
            result = -1 - left;
        } else if (op >= 14) {
            shiftBits(op, left, right & 31);
        } else {
            result = op == 1 ? left | right : op == 6 ? left ^ right : left & right;
        }
        boolean none = op == 12 || op >= 14 && op <= 16 && (right & 31) == 0;
        flags = none ? new int[] {-1, -1, -1, -1}
            : new int[] {carryStays ? -1 : carry ? 1 : 0, result == 0 ? 1 : 0, (int) result < 0 ? 1 : 0, overflow ? 1 : 0};
        if (op == 7 || op == 9) {
            result = left;
        }
    }

    /** One bit after the other. */
    private static void shiftBits(int op, int left, int by) {
        int v = left;
        for (int k = 0; k < by; k++) {
            carry = op == 14 ? v < 0 : (v & 1) == 1;
            v = op == 14 ? v * 2 : op == 15 ? v >>> 1 : v >> 1;
        }
        result = v;
        overflow = op == 14 ? v < 0 != carry : op == 15 && left < 0;
    }
}
