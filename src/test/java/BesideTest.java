import java.util.Random;
import java.util.function.LongSupplier;

/** Calls by chance (the same ones each time) on a BundleHouse and on Paper, the document written down once more: each answer is the same. */
final class BesideTest {
    private static final Due DUE = new Due();
    private static final int HOUSES = 2500;
    private static final int[] EDGES = {-1, 0, 1, 2, 3, 4, 7, 8, 15, 16, 17, 31, 32, 39, 40, 48, 100, 119, 120, 127, 128, 136, 255, 256, 272, 1020, 1021, 1023, 1024, 1100,
        5000, 5001, -16, -128, -129, Integer.MAX_VALUE, Integer.MIN_VALUE};
    private static final int[] SEEN_FAULTS = new int[7];
    private static final int[] SEEN_RUNS = new int[10];
    private static final int[] SEEN_WALKS = new int[10];

    private static int mostRounds;

    private final House house = new House();
    private final Paper paper = new Paper();
    private final Random chance;
    private final int seed;
    private int wrong;

    private BesideTest(int number) {
        seed = number;
        chance = new Random(number);
    }

    public static void main(String[] args) {
        for (int seed = 0; seed < HOUSES; seed++) {
            new BesideTest(seed).all();
        }
        for (int fault = 0; fault <= 6; fault++) {
            DUE.is("FAULT " + fault + " was seen", SEEN_FAULTS[fault] > 20, true);
        }
        for (int stop : new int[] {0, 1, 2, 3, 4, 6}) {
            DUE.is("a RUN with STOP " + stop + " was seen", SEEN_RUNS[stop] > 20, true);
        }
        for (int stop : new int[] {0, 1, 2, 3, 6, 7, 9}) {
            DUE.is("a WALK with STOP " + stop + " was seen", SEEN_WALKS[stop] > 20, true);
        }
        DUE.is("a DRAFT was laid four times or more", mostRounds >= 4, true);
        DUE.end();
    }

    /** What the two answer; only the first answers of an object that differ are told. */
    private long same(String call, LongSupplier mine, LongSupplier due) {
        String got = answer(mine);
        String want = answer(due);
        if (!got.equals(want) && wrong < 3) {
            wrong++;
            System.out.println("seed " + seed + ": " + call + " answered " + got + ", due is " + want);
            DUE.is("seed " + seed, 1, 0);
        }
        return want.startsWith("throws") ? -1 : Long.parseLong(want);
    }

    private static String answer(LongSupplier call) {
        try {
            return "" + call.getAsLong();
        } catch (RuntimeException e) {
            return "throws " + e.getClass().getSimpleName();
        }
    }

    private void all() {
        while (house.callsLeft() > 0) {
            switch (chance.nextInt(8)) {
                case 0: tapeByChance(); break;
                case 1:
                case 2: draftByChance(); break;
                case 3: begin(); break;
                case 4:
                case 5: goes(); break;
                default: asks(2 + chance.nextInt(30)); break;
            }
        }
    }

    private boolean canCall(int calls) {
        return house.callsLeft() >= calls;
    }

    private int number() {
        switch (chance.nextInt(6)) {
            case 0: return chance.nextInt();
            case 1: return EDGES[chance.nextInt(EDGES.length)];
            case 2: return chance.nextInt(300) - 150;
            case 3: return 256 + 16 * chance.nextInt(12);
            default: return chance.nextInt(900);
        }
    }

    private int edge() {
        return EDGES[chance.nextInt(EDGES.length)];
    }

    private void feed(int[] bytes) {
        for (int at = 0; at < bytes.length && canCall(1); at += 20) {
            int[] n = new int[5];
            for (int k = 0; k < 20; k++) {
                n[k / 4] = n[k / 4] << 8 | (at + k < bytes.length ? bytes[at + k] : 0);
            }
            same("feed", () -> house.feed(n[0], n[1], n[2], n[3], n[4]) ? 1 : 0, () -> paper.feed(n) ? 1 : 0);
        }
    }

    private void end(int n) {
        if (canCall(1)) {
            same("end(" + n + ")", () -> house.end(n) ? 1 : 0, () -> paper.end(n) ? 1 : 0);
        }
    }

    private void check() {
        if (canCall(1)) {
            SEEN_FAULTS[(int) same("check", house::check, paper::check)]++;
            faults();
        }
    }

    private void faults() {
        for (int what = 0; what < 2 && canCall(1); what++) {
            int which = what;
            same("fault(" + what + ")", () -> house.fault(which), () -> paper.fault(which));
        }
    }

    /** BYTES that keep the POLICY, mostly with a few of them changed. */
    private void tapeByChance() {
        if (chance.nextInt(3) > 0) {
            end(0);
        }
        Paper other = new Paper();
        draft(1 + chance.nextInt(chance.nextInt(4) == 0 ? 90 : 12), item -> {
            if (item.length == 3) {
                other.flow(item[0], item[1], item[2]);
            } else {
                other.plain(item[0], item[1], item[2], item[3], item[4], item[5]);
            }
        });
        other.build();
        int[] bytes = new int[other.size()];
        for (int k = 0; k < bytes.length; k++) {
            bytes[k] = other.code(k);
        }
        int changes = chance.nextInt(3);
        for (int k = 0; k < changes && bytes.length > 0; k++) {
            int[] some = {0, 131, 224, 240, 255, 195, 232, 235, 116, 184, 15, 141, 193, 129, 199, 139, chance.nextInt(256), chance.nextInt(256)};
            bytes[chance.nextInt(bytes.length)] = some[chance.nextInt(some.length)];
        }
        feed(bytes);
        end(chance.nextInt(12) == 0 ? edge() : bytes.length);
        if (chance.nextInt(10) > 0) {
            check();
        }
    }

    private interface Taker {
        void take(int[] item);
    }

    private void draftByChance() {
        if (canCall(1) && chance.nextInt(3) > 0) {
            same("clear", house::clear, paper::clear);
        }
        switch (chance.nextInt(9)) {
            case 0:
            case 1: callsAndReturns(); break;
            case 2:
            case 3: outAgainAndAgain(); break;
            case 4: jumpsFarAndNear(); break;
            default: draft(1 + chance.nextInt(chance.nextInt(4) == 0 ? 110 : 14), this::draftItem); break;
        }
        if (canCall(1)) {
            SEEN_FAULTS[(int) same("build", house::build, paper::build)]++;
            mostRounds = Math.max(mostRounds, paper.rounds());
            faults();
        }
    }

    /** What doesn't touch the STACK, by chance. */
    private void some(int n) {
        for (int k = chance.nextInt(n); k > 0; k--) {
            int[] item = plain();
            if (item[0] < 19 && item[2] != 4) {
                draftItem(item);
            }
        }
    }

    private void callsAndReturns() {
        some(4);
        draftItem(new int[] {8, 1, 2});
        draftItem(new int[] {3, 0, 0});
        some(6);
        draftItem(new int[] {2, 2, new int[] {0, 2, 5, 6, 9, 12, 14}[chance.nextInt(7)]});
        draftItem(new int[] {5 + chance.nextInt(2), 1 + chance.nextInt(2), 0});
        draftItem(new int[] {0, 0, 0});
        some(4);
        draftItem(new int[] {7, 0, 0});
        draftItem(new int[] {0, 1, 1});
        some(4);
        draftItem(new int[] {0, 2, 0});
        draftItem(new int[] {4, chance.nextInt(4), 0});
    }

    /** Many JUMPS and BRANCHES over some hundred BYTES, so that one that becomes LONG brings others out of reach. */
    private void jumpsFarAndNear() {
        int labels = 3 + chance.nextInt(5);
        int items = 70 + chance.nextInt(45);
        for (int k = 0; k < items; k++) {
            if (k % (items / labels) == 0 && k / (items / labels) < labels) {
                int label = k / (items / labels);
                draftItem(new int[] {0, label, label % 2});
            } else if (chance.nextInt(3) == 0) {
                draftItem(new int[] {1 + chance.nextInt(2), chance.nextInt(labels), chance.nextInt(10)});
            } else {
                draftItem(chance.nextInt(2) == 0 ? new int[] {21, 0, 0, 0, 0, 0} : plain());
            }
        }
    }

    private void outAgainAndAgain() {
        draftItem(new int[] {8, 5, 0, 0, 0, chance.nextInt(3)});
        draftItem(new int[] {0, 0, 0});
        some(3);
        draftItem(new int[] {4, 1, 0});
        some(2);
        draftItem(new int[] {1, 0, 0});
    }

    private void draftItem(int[] t) {
        if (canCall(1) && t.length == 3) {
            same("flow", () -> house.flow(t[0], t[1], t[2]), () -> paper.flow(t[0], t[1], t[2]));
        } else if (canCall(1)) {
            same("plain", () -> house.plain(t[0], t[1], t[2], t[3], t[4], t[5]), () -> paper.plain(t[0], t[1], t[2], t[3], t[4], t[5]));
        }
    }

    private void draft(int n, Taker taker) {
        int next = 0;
        int labels = 2 + chance.nextInt(5);
        for (int k = 0; k < n; k++) {
            if (next < labels && chance.nextInt(n) < labels + 1) {
                taker.take(new int[] {0, next, next % 2});
                next++;
            } else if (chance.nextInt(60) == 0) {
                taker.take(oddFlow());
            } else if (chance.nextInt(60) == 0) {
                taker.take(new int[] {edge(), edge(), edge(), edge(), edge(), edge()});
            } else {
                taker.take(chance.nextInt(5) < 2 ? flow(labels) : plain());
            }
        }
        for (; next < labels; next++) {
            if (chance.nextInt(15) > 0) {
                taker.take(new int[] {0, next, next % 2});
            }
        }
        if (chance.nextInt(15) == 0) {
            int label = chance.nextInt(labels);
            taker.take(new int[] {0, label, label % 2});
        }
    }

    /** The document doesn't tell whether a LABEL is MARKED that is told twice, once so and once not: it is told the same way here. */
    private int[] oddFlow() {
        int[] item = {edge(), edge(), edge()};
        if (item[0] == 0 && (item[2] == 0 || item[2] == 1)) {
            item[2] = item[1] & 1;
        }
        return item;
    }

    private int[] flow(int labels) {
        int label = chance.nextInt(labels);
        int c = chance.nextInt(14);
        switch (chance.nextInt(10)) {
            case 0: return new int[] {1, label, 0};
            case 1:
            case 2: return new int[] {2, label, c < 10 ? c : c + 2};
            case 3: return new int[] {3, label, 0};
            case 4:
            case 5: return new int[] {4, chance.nextInt(12) == 0 ? 0 : 1 + chance.nextInt(3), 0};
            case 6: return new int[] {5 + chance.nextInt(2), chance.nextInt(3), 0};
            case 7: return new int[] {7, 0, 0};
            default: return new int[] {8, chance.nextInt(20) == 0 ? label : 1, chance.nextInt(3)};
        }
    }

    private int[] plain() {
        int[][] opForms = {{0, 2}, {1, 3}, {2, 4}, {3, 5}, {4, 6}, {5, 2}, {6, 3}, {7, 4}, {7, 5}, {7, 6}, {0, 5}, {2, 2}, {3, 3}, {2, 5}, {8, 2}, {8, 3}, {8, 4}, {8, 5},
            {8, 5}, {8, 6}, {9, 2}, {9, 4}, {10, 3}, {11, 2}, {11, 3}, {12, 1}, {12, 7}, {13, 1}, {13, 7}, {14, 5}, {14, 6}, {15, 5}, {15, 6}, {16, 5}, {16, 6}, {17, 1},
            {18, 1}, {19, 1}, {19, 8}, {20, 1}, {21, 0}, {22, 0}};
        int[] one = opForms[chance.nextInt(opForms.length - (chance.nextInt(5) > 0 ? 1 : 0))];
        int r = chance.nextInt(8);
        r = r == 4 && chance.nextInt(4) > 0 ? 1 : r;
        int index = chance.nextInt(3) > 0 ? 8 : chance.nextInt(9);
        int base = chance.nextInt(3) > 0 ? 8 : chance.nextInt(9);
        int x = one[1] == 2 ? chance.nextInt(8) : base + 16 * (index == 4 ? 8 : index) + (index == 8 || index == 4 ? 0 : 256 * chance.nextInt(4));
        boolean shift = one[0] >= 14 && one[0] <= 16;
        return new int[] {one[0], one[1], r, x, number(), shift ? chance.nextInt(4) == 0 ? 32 * chance.nextInt(8) : chance.nextInt(256) : number()};
    }

    private void set(int sort, int k, int v) {
        if (canCall(1)) {
            same("set(" + sort + ", " + k + ", " + v + ")", () -> house.set(sort, k, v) ? 1 : 0, () -> paper.set(sort, k, v) ? 1 : 0);
        }
    }

    private void begin() {
        if (chance.nextInt(4) == 0) {
            set(3, edge(), edge());
        }
        for (int k = 0; k < 8; k++) {
            if (chance.nextInt(2) == 0) {
                set(0, k, number());
            }
        }
        set(0, 4, chance.nextInt(5) == 0 ? edge() : 300 + chance.nextInt(200));
        for (int k = chance.nextInt(5); k > 0; k--) {
            set(1, chance.nextInt(4) == 0 ? edge() : chance.nextInt(1021), number());
            set(2, edge(), number());
        }
        if (chance.nextInt(4) == 0) {
            set(edge(), edge(), edge());
        }
    }

    private void goes() {
        if (chance.nextInt(2) == 0) {
            set(0, 4, 300 + chance.nextInt(200));
        }
        // Which one is thrown if there is no CODE and no such fuel the document doesn't tell.
        boolean both = paper.size() > 0 && paper.place(2, 0) >= 0;
        int fuel = both && chance.nextInt(12) == 0 ? edge() : chance.nextInt(3) == 0 ? 1 + chance.nextInt(40) : 3000;
        if (canCall(1) && chance.nextInt(3) > 0) {
            long stop = same("run(" + fuel + ")", () -> house.run(fuel), () -> paper.run(fuel));
            SEEN_RUNS[(int) Math.max(0, stop)]++;
        }
        if (canCall(1) && chance.nextInt(3) > 0) {
            long stop = same("walk(" + fuel + ")", () -> house.walk(fuel), () -> paper.walk(fuel));
            SEEN_WALKS[(int) Math.max(0, stop)]++;
        }
        boolean walk = chance.nextBoolean();
        for (int what = 0; what < 18 && canCall(1); what++) {
            int which = what;
            same("state(" + walk + ", " + what + ")", () -> house.state(walk, which), () -> paper.state(walk, which));
        }
    }

    private void asks(int n) {
        for (int turn = 0; turn < n && canCall(1); turn++) {
            boolean walk = chance.nextBoolean();
            boolean odd = chance.nextInt(5) == 0;
            int some = odd ? edge() : chance.nextInt(Math.max(1, paper.size()));
            int what = odd ? edge() : chance.nextInt(8);
            switch (chance.nextInt(8)) {
                case 0: same("size", house::size, paper::size); break;
                case 1: same("code(" + some + ")", () -> house.code(some), () -> paper.code(some)); break;
                case 2:
                case 3: same("decoded(" + some + ", " + what + ")", () -> house.decoded(some, what), () -> paper.decoded(some, what)); break;
                case 4: {
                    int sort = odd ? edge() : chance.nextInt(3);
                    int k = odd ? edge() : chance.nextInt(sort == 1 ? 6 : 20);
                    same("place(" + sort + ", " + k + ")", () -> house.place(sort, k), () -> paper.place(sort, k));
                    break;
                }
                case 5: {
                    int a = odd ? edge() : chance.nextInt(1024);
                    same("data(" + walk + ", " + a + ")", () -> house.data(walk, a), () -> paper.data(walk, a));
                    break;
                }
                case 6: {
                    int i = odd ? edge() : chance.nextInt(10);
                    same("output(" + walk + ", " + i + ")", () -> house.output(walk, i), () -> paper.output(walk, i));
                    break;
                }
                default: {
                    int which = odd ? edge() : chance.nextInt(18);
                    same("state(" + walk + ", " + which + ")", () -> house.state(walk, which), () -> paper.state(walk, which));
                    break;
                }
            }
        }
    }
}
