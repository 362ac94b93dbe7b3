import java.util.ArrayList;
import java.util.Arrays;
import java.util.HashMap;
import java.util.List;
import java.util.Map;
import java.util.NoSuchElementException;

/**
 * The document once more, written down with no eye on BundleHouse: slow, with lists and maps, each term where the
 * document has it. BesideTest holds the two against one another.
 */
final class Paper {
    private static final int NONE = -1;

    private List<Integer> tape = new ArrayList<>();
    private List<Integer> code = List.of();
    private final List<int[]> draft = new ArrayList<>();
    private Laid program;
    private int fault;
    private int faultAt = NONE;
    private final int[] beginRegisters = new int[8];
    private final byte[] beginData = new byte[1024];
    private final List<Integer> beginInput = new ArrayList<>();
    private Going latestRun;
    private Going latestWalk;

    boolean feed(int... numbers) {
        if (tape.size() + 20 > 1100) {
            return false;
        }
        for (int n : numbers) {
            for (int k = 3; k >= 0; k--) {
                tape.add(n >>> 8 * k & 255);
            }
        }
        return true;
    }

    boolean end(int n) {
        if (n < 0 || n > tape.size()) {
            return false;
        }
        tape = new ArrayList<>(tape.subList(0, n));
        return true;
    }

    int check() {
        int[] found = policyFault(tape);
        fault = found[0];
        faultAt = found[1];
        if (fault == 0) {
            newCode(tape, null);
        }
        tape = new ArrayList<>();
        return fault;
    }

    private void newCode(List<Integer> bytes, Laid laid) {
        code = List.copyOf(bytes);
        program = laid;
        latestRun = null;
        latestWalk = null;
    }

    int fault(int what) {
        return what == 0 ? fault : what == 1 ? faultAt : NONE;
    }

    int plain(int op, int form, int r, int x, int d, int i) {
        if (draft.size() == 120 || !isPlain(op, form, r, x, i)) {
            return NONE;
        }
        draft.add(new int[] {9, op, form, r, x, d, i});
        return draft.size();
    }

    int flow(int sort, int a, int b) {
        if (draft.size() == 120 || !isFlow(sort, a, b)) {
            return NONE;
        }
        draft.add(new int[] {sort, a, b});
        return draft.size();
    }

    private static final String[] FORMS = {"23456", "23456", "23456", "23456", "23456", "23456", "23456", "23456", "23456", "24", "3", "23", "17", "17", "56", "56", "56",
        "1", "1", "18", "1", "0", "0"};

    private static boolean isPlain(int op, int form, int r, int x, int i) {
        if (op < 0 || op > 22 || form < 0 || form > 8 || !FORMS[op].contains("" + form)) {
            return false;
        }
        if ("12345".contains("" + form) && (r < 0 || r > 7)) {
            return false;
        }
        if (form == 2 && (x < 0 || x > 7)) {
            return false;
        }
        if ("3467".contains("" + form) && !memories().contains(x)) {
            return false;
        }
        return op < 14 || op > 16 || i >= 0 && i <= 255;
    }

    private static List<Integer> allMemories;

    private static List<Integer> memories() {
        if (allMemories == null) {
            allMemories = new ArrayList<>();
            for (int b = 0; b <= 8; b++) {
                for (int j = 0; j <= 8; j++) {
                    for (int k = 0; j != 4 && k <= (j == 8 ? 0 : 3); k++) {
                        allMemories.add(b + 16 * j + 256 * k);
                    }
                }
            }
        }
        return allMemories;
    }

    private static boolean isFlow(int sort, int a, int b) {
        boolean label = a >= 0 && a <= 39;
        boolean register = a >= 0 && a <= 7 && a != 4;
        return switch (sort) {
            case 0 -> label && (b == 0 || b == 1);
            case 1, 3 -> label;
            case 2 -> label && b >= 0 && b <= 15 && b != 10 && b != 11;
            case 4 -> a >= 0 && a <= 3;
            case 5, 6 -> register;
            case 7 -> true;
            case 8 -> label && b >= 0 && b <= 7;
            default -> false;
        };
    }

    int clear() {
        int had = draft.size();
        draft.clear();
        return had;
    }

    int build() {
        faultAt = NONE;
        fault = 0;
        Map<Integer, Integer> told = new HashMap<>();
        for (int k = draft.size() - 1; k >= 0; k--) {
            if (draft.get(k)[0] == 0) {
                told.put(draft.get(k)[1], k);
            }
        }
        for (int k = 0; k < draft.size() && fault == 0; k++) {
            fault = itemFault(k, told);
            faultAt = fault == 0 ? NONE : k;
        }
        if (fault == 0) {
            Laid laid = new Laid(draft, told);
            if (laid.bytes.size() > 1024) {
                fault = 4;
            } else {
                newCode(laid.bytes, laid);
            }
        }
        return fault;
    }

    private int itemFault(int k, Map<Integer, Integer> told) {
        int[] item = draft.get(k);
        if (item[0] == 0) {
            return told.get(item[1]) == k ? 0 : 1;
        }
        if (item[0] == 1 || item[0] == 2 || item[0] == 3 || item[0] == 8) {
            if (!told.containsKey(item[1])) {
                return 2;
            }
            return item[0] == 8 && draft.get(told.get(item[1]))[2] == 0 ? 3 : 0;
        }
        return 0;
    }

    int size() {
        return code.size();
    }

    int code(int i) {
        return i < 0 || i >= code.size() ? NONE : code.get(i);
    }

    int decoded(int place, int what) {
        int[] found = place < 0 ? null : Taken.at(code, place);
        if (found == null || what < 0 || what > 7) {
            throw new NoSuchElementException();
        }
        return what < 7 ? found[what] : startSort(place);
    }

    private int startSort(int place) {
        for (int at = place / 16 * 16; at <= place; at += Taken.at(code, at)[0]) {
            if (at == place) {
                return Taken.at(code, at)[1] >= 27 ? 2 : 1;
            }
        }
        return 0;
    }

    int place(int sort, int k) {
        if (program == null || sort < 0 || sort > 2) {
            return NONE;
        }
        if (sort == 2) {
            return program.items.size();
        }
        if (sort == 1) {
            return program.told.containsKey(k) ? program.places[program.told.get(k)] : NONE;
        }
        return k < 0 || k >= program.items.size() ? NONE : program.places[k];
    }

    boolean set(int sort, int k, int v) {
        if (sort == 0 && k >= 0 && k <= 7) {
            beginRegisters[k] = v;
            return true;
        }
        if (sort == 1 && k >= 0 && k <= 1020) {
            for (int more = 0; more < 4; more++) {
                beginData[k + more] = (byte) (v >> 8 * more);
            }
            return true;
        }
        if (sort == 2 && beginInput.size() < 50) {
            beginInput.add(v);
            return true;
        }
        if (sort == 3) {
            Arrays.fill(beginRegisters, 0);
            Arrays.fill(beginData, (byte) 0);
            beginInput.clear();
            return true;
        }
        return false;
    }

    int run(int fuel) {
        if (code.isEmpty()) {
            throw new IllegalStateException();
        }
        if (fuel < 1 || fuel > 5000) {
            throw new IllegalArgumentException();
        }
        latestRun = new Going(beginRegisters, beginData, beginInput);
        latestRun.run(code, fuel);
        return latestRun.stop;
    }

    int walk(int fuel) {
        if (program == null) {
            throw new IllegalStateException();
        }
        if (fuel < 1 || fuel > 5000) {
            throw new IllegalArgumentException();
        }
        latestWalk = new Going(beginRegisters, beginData, beginInput);
        latestWalk.walk(program, fuel);
        return latestWalk.stop;
    }

    int state(boolean walk, int what) {
        Going going = walk ? latestWalk : latestRun;
        if (going == null || what < 0 || what > 17) {
            throw new NoSuchElementException();
        }
        boolean hidden = going.unknown1;
        if (what < 8) {
            return what == 1 && hidden ? 0 : going.registers[what];
        }
        if (what < 12) {
            Boolean flag = going.flags.get("CZSO".charAt(what - 8));
            return flag == null ? 2 : flag ? 1 : 0;
        }
        return switch (what) {
            case 12 -> going.address;
            case 13 -> going.steps;
            case 14 -> going.stop;
            case 15 -> going.output.size();
            case 16 -> 0;
            default -> hidden ? 1 : 0;
        };
    }

    int data(boolean walk, int a) {
        Going going = walk ? latestWalk : latestRun;
        return going == null || a < 0 || a > 1023 ? NONE : going.data[a] & 255;
    }

    int output(boolean walk, int i) {
        Going going = walk ? latestWalk : latestRun;
        if (going == null || i < 0 || i >= going.output.size()) {
            throw new NoSuchElementException();
        }
        return going.output.get(i);
    }

    /** The FAULT and its place. */
    private static int[] policyFault(List<Integer> bytes) {
        int n = bytes.size();
        if (n == 0 || n > 1024 || n % 16 != 0) {
            return new int[] {1, n};
        }
        Map<Integer, int[]> starts = new HashMap<>();
        for (int bundle = 0; bundle < n; bundle += 16) {
            int[] ahead = null;
            int aheadAt = NONE;
            int at = bundle;
            while (at < bundle + 16) {
                int[] t = Taken.at(bytes, at);
                if (t == null || t[1] == 23) {
                    return new int[] {2, at};
                }
                int end = at + t[0];
                if (end > bundle + 16) {
                    return new int[] {3, at};
                }
                boolean goes = t[1] == 27 || t[1] == 28;
                boolean pair = ahead != null && bytes.get(aheadAt) == 131 && bytes.get(aheadAt + 1) == 0xE0 + t[3] && bytes.get(aheadAt + 2) == 240;
                if (goes && !pair) {
                    return new int[] {4, at};
                }
                if ((t[1] == 26 || t[1] == 28) && end != bundle + 16) {
                    return new int[] {5, at};
                }
                starts.put(at, t);
                ahead = t;
                aheadAt = at;
                at = end;
            }
        }
        for (int at = 0; at < n; at++) {
            int[] t = starts.get(at);
            if (t != null && t[1] >= 24 && t[1] <= 26) {
                int target = 256 + at + t[0] + t[6];
                int[] there = starts.get(target - 256);
                boolean service = target == 0 || target == 16 || target == 32 || target == 48;
                if (!service && (there == null || there[1] >= 27)) {
                    return new int[] {6, at};
                }
            }
        }
        return new int[] {0, NONE};
    }

    /** An INSTRUCTION out of BYTES: how many BYTES, OP, FORM, R, X, D, I. */
    private static final class Taken {
        private final List<Integer> bytes;
        private int p;
        private int m;
        private int k;
        private int e;
        private int x;
        private int d;

        private Taken(List<Integer> source, int place) {
            bytes = source;
            p = place;
        }

        private static final class Over extends RuntimeException {
            private static final long serialVersionUID = 1;
        }

        static int[] at(List<Integer> source, int place) {
            try {
                Taken t = new Taken(source, place);
                int[] found = t.take();
                if (found == null) {
                    return null;
                }
                int[] whole = new int[7];
                whole[0] = t.p - place;
                System.arraycopy(found, 0, whole, 1, 6);
                return whole;
            } catch (Over e) {
                return null;
            }
        }

        private int next() {
            if (p >= bytes.size()) {
                throw new Over();
            }
            return bytes.get(p++);
        }

        private int one() {
            int v = next();
            return v > 127 ? v - 256 : v;
        }

        private int four() {
            long v = next();
            v += 256L * next();
            v += 65536L * next();
            v += 16777216L * next();
            return (int) v;
        }

        private void operand() {
            int told = next();
            m = told / 64;
            k = told / 8 % 8;
            e = told % 8;
            if (m == 3) {
                return;
            }
            int base = e;
            int index = 8;
            int scale = 0;
            if (e == 4) {
                int more = next();
                base = more % 8;
                index = more / 8 % 8;
                scale = more / 64;
                if (index == 4) {
                    index = 8;
                    scale = 0;
                }
            }
            boolean noBase = base == 5 && m == 0;
            x = (noBase ? 8 : base) + 16 * index + 256 * scale;
            d = noBase || m == 2 ? four() : m == 1 ? one() : 0;
        }

        /** R is E and X the k, or MEMORY and R. */
        private int[] store(int op) {
            operand();
            return m == 3 ? new int[] {op, 2, e, k, 0, 0} : new int[] {op, 4, k, x, d, 0};
        }

        private int[] load(int op) {
            operand();
            return m == 3 ? new int[] {op, 2, k, e, 0, 0} : new int[] {op, 3, k, x, d, 0};
        }

        private int[] number(int op, int i) {
            return m == 3 ? new int[] {op, 5, e, 0, 0, i} : new int[] {op, 6, 0, x, d, i};
        }

        private int[] take() {
            int b = next();
            if (b < 64 && b % 8 == 1) {
                return store(b / 8);
            }
            if (b < 64 && b % 8 == 3) {
                return load(b / 8);
            }
            if (b >= 64 && b < 96) {
                return new int[] {17 + (b - 64) / 8, 1, b % 8, 0, 0, 0};
            }
            if (b >= 112 && b < 128 && b != 122 && b != 123) {
                return new int[] {25, 8, b - 112, 0, 0, one()};
            }
            if (b >= 184 && b < 192) {
                return new int[] {8, 5, b - 184, 0, 0, four()};
            }
            switch (b) {
                case 137: return store(8);
                case 139: return load(8);
                case 133: return store(9);
                case 104: return new int[] {19, 8, 0, 0, 0, four()};
                case 106: return new int[] {19, 8, 0, 0, 0, one()};
                case 144: return new int[] {21, 0, 0, 0, 0, 0};
                case 244: return new int[] {22, 0, 0, 0, 0, 0};
                case 195: return new int[] {23, 0, 0, 0, 0, 0};
                case 235: return new int[] {24, 8, 0, 0, 0, one()};
                case 233: return new int[] {24, 8, 0, 0, 0, four()};
                case 232: return new int[] {26, 8, 0, 0, 0, four()};
                default: return takeMore(b);
            }
        }

        private int[] takeMore(int b) {
            if (b == 15) {
                int second = next();
                if (second == 175) {
                    return load(11);
                }
                boolean branch = second >= 128 && second < 144 && second != 138 && second != 139;
                return branch ? new int[] {25, 8, second - 128, 0, 0, four()} : null;
            }
            if (!List.of(129, 131, 141, 193, 199, 247, 255).contains(b)) {
                return null;
            }
            operand();
            if (b == 129) {
                return number(k, four());
            }
            if (b == 131) {
                return number(k, one());
            }
            if (b == 141) {
                return m == 3 ? null : new int[] {10, 3, k, x, d, 0};
            }
            if (b == 193) {
                return k == 4 ? number(14, next()) : k == 5 ? number(15, next()) : k == 7 ? number(16, next()) : null;
            }
            if (b == 199) {
                return k == 0 ? number(8, four()) : null;
            }
            if (b == 247) {
                int op = k == 2 ? 12 : k == 3 ? 13 : NONE;
                return op == NONE ? null : m == 3 ? new int[] {op, 1, e, 0, 0, 0} : new int[] {op, 7, 0, x, d, 0};
            }
            int op = k == 4 ? 27 : k == 2 ? 28 : NONE;
            return op == NONE || m != 3 ? null : new int[] {op, 1, e, 0, 0, 0};
        }
    }

    /** A DRAFT that was built. */
    private static final class Laid {
        final List<int[]> items;
        final Map<Integer, Integer> told;
        final int[] places;
        final int rounds;
        int tail;
        List<Integer> bytes;

        Laid(List<int[]> draft, Map<Integer, Integer> labels) {
            items = new ArrayList<>(draft);
            told = new HashMap<>(labels);
            places = new int[items.size()];
            boolean[] isLong = new boolean[items.size()];
            int round = 0;
            boolean again = true;
            while (again) {
                round++;
                lay(isLong);
                again = false;
                boolean[] longer = isLong.clone();
                for (int k = 0; k < items.size(); k++) {
                    int[] item = items.get(k);
                    if ((item[0] == 1 || item[0] == 2) && !isLong[k]) {
                        int far = places[told.get(item[1])] - (places[k] + 2);
                        if (far < -128 || far > 127) {
                            longer[k] = true;
                            again = true;
                        }
                    }
                }
                isLong = longer;
            }
            rounds = round;
            // Once more, as the places are known now.
            lay(isLong);
        }

        private void lay(boolean[] isLong) {
            bytes = new ArrayList<>();
            for (int k = 0; k < items.size(); k++) {
                int[] item = items.get(k);
                if (item[0] == 0) {
                    while (item[2] == 1 && bytes.size() % 16 != 0) {
                        bytes.add(144);
                    }
                    places[k] = bytes.size();
                } else if (item[0] == 7) {
                    places[k] = put(List.of(89), false);
                    put(List.of(131, 225, 240, 255, 225), false);
                } else {
                    boolean last = item[0] == 3 || item[0] == 4 || item[0] == 6;
                    int length = piece(k, isLong[k], 0).size();
                    int at = put(piece(k, isLong[k], 0), last);
                    places[k] = at;
                    // The TARGET is told from where the piece lies now.
                    List<Integer> right = piece(k, isLong[k], at + length);
                    for (int more = 0; more < length; more++) {
                        bytes.set(at + more, right.get(more));
                    }
                }
            }
            tail = bytes.size();
            do {
                bytes.add(244);
            } while (bytes.size() % 16 != 0);
        }

        private int put(List<Integer> piece, boolean last) {
            int length = piece.size();
            while (bytes.size() % 16 + length > 16 || last && (bytes.size() + length) % 16 != 0) {
                bytes.add(144);
            }
            int at = bytes.size();
            bytes.addAll(piece);
            return at;
        }

        private static void four(List<Integer> to, int n) {
            for (int k = 0; k < 4; k++) {
                to.add(n >>> 8 * k & 255);
            }
        }

        private List<Integer> piece(int k, boolean isLong, int end) {
            int[] item = items.get(k);
            List<Integer> p = new ArrayList<>();
            int label = item[0] == 9 || !told.containsKey(item[1]) ? 0 : places[told.get(item[1])];
            switch (item[0]) {
                case 1, 2 -> {
                    if (!isLong) {
                        p.add(item[0] == 1 ? 235 : 112 + item[2]);
                        p.add(label - end & 255);
                    } else {
                        if (item[0] == 2) {
                            p.add(15);
                        }
                        p.add(item[0] == 1 ? 233 : 128 + item[2]);
                        four(p, label - end);
                    }
                }
                case 3 -> {
                    p.add(232);
                    four(p, label - end);
                }
                case 4 -> {
                    p.add(232);
                    four(p, 16 * item[1] - 256 - end);
                }
                case 5, 6 -> p.addAll(List.of(131, 224 + item[1], 240, 255, (item[0] == 5 ? 224 : 208) + item[1]));
                case 8 -> {
                    p.add(184 + item[2]);
                    four(p, 256 + label);
                }
                default -> plain(p, item[1], item[2], item[3], item[4], item[5], item[6]);
            }
            return p;
        }

        private static void plain(List<Integer> p, int op, int form, int r, int x, int d, int i) {
            boolean small = i >= -128 && i <= 127;
            String of = op + "/" + form;
            if (op <= 7) {
                switch (form) {
                    case 2 -> p.addAll(List.of(1 + 8 * op, 192 + 8 * x + r));
                    case 3 -> memory(p, 3 + 8 * op, r, x, d);
                    case 4 -> memory(p, 1 + 8 * op, r, x, d);
                    case 5 -> p.addAll(List.of(small ? 131 : 129, 192 + 8 * op + r));
                    default -> memory(p, small ? 131 : 129, op, x, d);
                }
                number(p, form == 5 || form == 6, small, i);
                return;
            }
            switch (of) {
                case "8/2" -> p.addAll(List.of(137, 192 + 8 * x + r));
                case "8/3" -> memory(p, 139, r, x, d);
                case "8/4" -> memory(p, 137, r, x, d);
                case "8/5" -> p.add(184 + r);
                case "8/6" -> memory(p, 199, 0, x, d);
                case "9/2" -> p.addAll(List.of(133, 192 + 8 * x + r));
                case "9/4" -> memory(p, 133, r, x, d);
                case "10/3" -> memory(p, 141, r, x, d);
                case "11/2" -> p.addAll(List.of(15, 175, 192 + 8 * r + x));
                case "11/3" -> {
                    p.add(15);
                    memory(p, 175, r, x, d);
                }
                case "12/1", "13/1" -> p.addAll(List.of(247, 192 + 8 * (op - 10) + r));
                case "12/7", "13/7" -> memory(p, 247, op - 10, x, d);
                case "14/5", "15/5", "16/5" -> p.addAll(List.of(193, 192 + 8 * (op == 16 ? 7 : op - 10) + r, i));
                case "14/6", "15/6", "16/6" -> {
                    memory(p, 193, op == 16 ? 7 : op - 10, x, d);
                    p.add(i);
                }
                case "17/1" -> p.add(64 + r);
                case "18/1" -> p.add(72 + r);
                case "19/1" -> p.add(80 + r);
                case "20/1" -> p.add(88 + r);
                case "19/8" -> p.add(small ? 106 : 104);
                case "21/0" -> p.add(144);
                default -> p.add(244);
            }
            number(p, op == 8 && form >= 5 || op == 19 && form == 8, small && op == 19, i);
        }

        private static void number(List<Integer> p, boolean has, boolean one, int i) {
            if (has && one) {
                p.add(i & 255);
            } else if (has) {
                four(p, i);
            }
        }

        private static void memory(List<Integer> p, int lead, int k, int x, int d) {
            int base = x % 16;
            int index = x / 16 % 16;
            int scale = x / 256;
            p.add(lead);
            if (base == 8) {
                p.add(8 * k + (index == 8 ? 5 : 4));
                if (index != 8) {
                    p.add(64 * scale + 8 * index + 5);
                }
                four(p, d);
                return;
            }
            int m = d == 0 && base != 5 ? 0 : d >= -128 && d <= 127 ? 1 : 2;
            if (index == 8 && base != 4) {
                p.add(64 * m + 8 * k + base);
            } else {
                p.add(64 * m + 8 * k + 4);
                p.add(64 * scale + 8 * (index == 8 ? 4 : index) + base);
            }
            if (m == 1) {
                p.add(d & 255);
            } else if (m == 2) {
                four(p, d);
            }
        }
    }

    /** A STOP, from wherever it is found; nothing was changed then. */
    private static final class Stop extends RuntimeException {
        private static final long serialVersionUID = 1;
        final int why;

        Stop(int reason) {
            super(null, null, false, false);
            why = reason;
        }
    }

    /** A RUN or a WALK. */
    private static final class Going {
        final int[] registers;
        final byte[] data;
        final List<Integer> input;
        final List<Integer> output = new ArrayList<>();
        /** A FLAG that isn't here is UNKNOWN. */
        final Map<Character, Boolean> flags = new HashMap<>(Map.of('C', false, 'Z', false, 'S', false, 'O', false));
        boolean unknown1;
        int address;
        int steps;
        int stop;

        Going(int[] r, byte[] d, List<Integer> i) {
            registers = r.clone();
            data = d.clone();
            input = new ArrayList<>(i);
        }

        private static void wants(int a) {
            if (a < 0 || a > 1020) {
                throw new Stop(3);
            }
        }

        private int word(int a) {
            wants(a);
            int v = 0;
            for (int k = 3; k >= 0; k--) {
                v = v * 256 + (data[a + k] & 255);
            }
            return v;
        }

        private void word(int a, int v) {
            wants(a);
            for (int k = 0; k < 4; k++) {
                data[a + k] = (byte) (v >> 8 * k);
            }
        }

        private void push(int v) {
            word(registers[4] - 4, v);
            registers[4] -= 4;
        }

        private int pop() {
            int v = word(registers[4]);
            registers[4] += 4;
            return v;
        }

        private int register(int r) {
            if (r == 1 && unknown1) {
                throw new Stop(7);
            }
            return registers[r];
        }

        private void register(int r, int v) {
            registers[r] = v;
            unknown1 = unknown1 && r != 1;
        }

        private boolean flag(char f) {
            Boolean is = flags.get(f);
            if (is == null) {
                throw new Stop(7);
            }
            return is;
        }

        void run(List<Integer> code, int fuel) {
            address = 256;
            stop = 0;
            try {
                while (steps < fuel && stop == 0) {
                    runStep(code);
                    steps++;
                }
            } catch (Stop s) {
                stop = s.why;
            }
        }

        private void runStep(List<Integer> code) {
            if (List.of(0, 16, 32, 48).contains(address)) {
                if (address == 0) {
                    stop = 2;
                } else {
                    int to = word(registers[4]);
                    service(address);
                    pop();
                    address = to - Math.floorMod(to, 16);
                }
                return;
            }
            if (address < 256 || address - 256 >= code.size()) {
                throw new Stop(4);
            }
            int[] t = Taken.at(code, address - 256);
            if (t == null) {
                throw new Stop(5);
            }
            int behind = address + t[0];
            switch (t[1]) {
                case 22 -> stop = 1;
                case 24 -> address = behind + t[6];
                case 25 -> address = holds(t[3]) ? behind + t[6] : behind;
                case 26 -> {
                    push(behind);
                    address = behind + t[6];
                }
                case 27 -> address = registers[t[3]];
                case 28 -> {
                    int to = registers[t[3]];
                    push(behind);
                    address = to;
                }
                default -> {
                    perform(t[1], t[2], t[3], t[4], t[5], t[6]);
                    address = behind;
                }
            }
        }

        private void service(int at) {
            if (at == 16) {
                if (output.size() == 100) {
                    throw new Stop(6);
                }
                output.add(registers[3]);
            } else if (at == 32) {
                registers[0] = input.isEmpty() ? 0 : input.remove(0);
            } else {
                registers[0] = output.size();
            }
        }

        private boolean holds(int c) {
            boolean is = switch (c / 2) {
                case 0 -> flag('O');
                case 1 -> flag('C');
                case 2 -> flag('Z');
                case 3 -> flag('C') | flag('Z');
                case 4 -> flag('S');
                case 6 -> flag('S') ^ flag('O');
                default -> flag('Z') | flag('S') ^ flag('O');
            };
            return is ^ c % 2 == 1;
        }

        private void perform(int op, int form, int r, int x, int d, int i) {
            if (op == 21) {
                return;
            }
            if (op == 19) {
                push(form == 8 ? i : register(r));
                return;
            }
            if (op == 20) {
                register(r, pop());
                return;
            }
            boolean memory = form == 3 || form == 4 || form == 6 || form == 7;
            int at = 0;
            if (memory) {
                int index = x / 16 % 16;
                at = d + (x % 16 == 8 ? 0 : register(x % 16)) + (index == 8 ? 0 : register(index) << x / 256);
            }
            if (op == 10) {
                register(r, at);
                return;
            }
            boolean inWord = form == 4 || form == 6 || form == 7;
            // All that may be UNKNOWN is read ahead of any WORD.
            int byRegister = form == 2 ? register(x) : form == 4 ? register(r) : i;
            int leftRegister = inWord || op == 8 ? 0 : register(r);
            boolean carry = (op == 2 || op == 3) && flag('C');
            int right = form == 3 ? word(at) : byRegister;
            int left = inWord ? word(at) : leftRegister;
            int result = op == 8 ? right : reckon(op, left, right, carry ? 1 : 0);
            if (op != 7 && op != 9) {
                if (inWord) {
                    word(at, result);
                } else {
                    register(r, result);
                }
            }
        }

        private int reckon(int op, int left, int right, int c) {
            long a = left;
            long b = right;
            long ua = Integer.toUnsignedLong(left);
            long ub = Integer.toUnsignedLong(right);
            switch (op) {
                case 0, 2:
                    return give(a + b + c, ua + ub + c >= 1L << 32);
                case 3, 5, 7:
                    return give(a - b - c, ub + c > ua);
                case 13:
                    return give(-a, ua > 0);
                case 11: {
                    long product = a * b;
                    return give(product, product != (int) product);
                }
                case 17:
                    return give(a + 1, flags.get('C'));
                case 18:
                    return give(a - 1, flags.get('C'));
                case 12:
                    return ~left;
                case 14, 15, 16:
                    return shift(op, left, right % 32);
                case 1:
                    return give(left | right, false);
                case 6:
                    return give(left ^ right, false);
                default:
                    return give(left & right, false);
            }
        }

        private int give(long exact, Boolean carry) {
            int result = (int) exact;
            flags.put('C', carry);
            flags.put('Z', result == 0);
            flags.put('S', result < 0);
            flags.put('O', result != exact);
            return result;
        }

        private int shift(int op, int left, int by) {
            int v = left;
            boolean out = false;
            for (int k = 0; k < by; k++) {
                out = op == 14 ? v < 0 : v % 2 != 0;
                v = op == 14 ? v + v : op == 15 ? v >>> 1 : v >> 1;
            }
            if (by > 0) {
                give(v, out);
                flags.put('O', op == 14 ? v < 0 != out : op == 15 && left < 0);
            }
            return v;
        }

        /** Below 0: the SERVICE at -1 - that. */
        private int at;

        void walk(Laid p, int fuel) {
            at = past(p, 0);
            stop = 0;
            try {
                while (steps < fuel && stop == 0) {
                    walkStep(p);
                    steps++;
                }
            } catch (Stop s) {
                stop = s.why;
            }
            address = at < 0 ? -1 - at : 256 + (at == p.items.size() ? p.tail : p.places[at]);
        }

        private static int past(Laid p, int k) {
            return k < p.items.size() && p.items.get(k)[0] == 0 ? past(p, k + 1) : k;
        }

        /** Where an address leads to, or LOST. */
        private static int landing(Laid p, int to) {
            if (List.of(0, 16, 32, 48).contains(to)) {
                return -1 - to;
            }
            for (int k = 0; k < p.items.size(); k++) {
                int[] item = p.items.get(k);
                if (item[0] == 0 && item[2] == 1 && 256 + p.places[k] == to) {
                    return past(p, k);
                }
                if (List.of(3, 4, 6).contains(item[0]) && 256 + p.places[k] + 5 == to) {
                    return past(p, k + 1);
                }
            }
            throw new Stop(9);
        }

        private void walkStep(Laid p) {
            if (at < 0) {
                int service = -1 - at;
                if (service == 0) {
                    stop = 2;
                    return;
                }
                int to = landing(p, word(registers[4]));
                service(service);
                pop();
                at = to;
                return;
            }
            if (at == p.items.size()) {
                stop = 1;
                return;
            }
            int[] item = p.items.get(at);
            int behind = 256 + p.places[at] + 5;
            int next = past(p, at + 1);
            int label = item[0] >= 1 && item[0] <= 3 ? past(p, p.told.get(item[1])) : 0;
            switch (item[0]) {
                case 1 -> at = label;
                case 2 -> at = holds(item[2]) ? label : next;
                case 3, 4 -> {
                    push(behind);
                    at = item[0] == 3 ? label : -1 - 16 * item[1];
                }
                case 5, 6 -> {
                    int to = landing(p, register(item[1]));
                    if (item[0] == 6) {
                        push(behind);
                    }
                    flags.clear();
                    at = to;
                }
                case 7 -> {
                    int to = landing(p, word(registers[4]));
                    pop();
                    unknown1 = true;
                    flags.clear();
                    at = to;
                }
                case 8 -> {
                    register(item[2], 256 + p.places[p.told.get(item[1])]);
                    at = next;
                }
                default -> {
                    if (item[1] == 22) {
                        stop = 1;
                        return;
                    }
                    perform(item[1], item[2], item[3], item[4], item[5], item[6]);
                    at = next;
                }
            }
        }
    }

    /** How often the latest PROGRAM was laid, till no JUMP became LONG. */
    int rounds() {
        return program == null ? 0 : program.rounds;
    }
}
