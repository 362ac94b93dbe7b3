import java.util.Random;

/**
 * Many DRAFTS by chance (the same ones each time): what is built keeps the POLICY and tells its ITEMS again,
 * and a WALK that doesn't stop for what the rewriting may change ends as the RUN beside it.
 */
final class TogetherTest {
    private static final Due DUE = new Due();
    private static final int NO = 8;
    private static final int HOUSES = 6000;
    private static final int WALK_FUEL = 700;
    private static final int RUN_FUEL = 5000;
    private static final int[] FORMS_OF_TEST = {2, 4};
    private static final int[] STOPS_SEEN = new int[10];

    private static int agreed;

    public static void main(String[] args) {
        for (int seed = 0; seed < HOUSES; seed++) {
            House h = new House();
            int[][] items = draft(h, seed);
            if (h.build() == 0) {
                keepsPolicy(seed);
                tellsItems(seed, items);
                beside(seed, h);
            } else {
                DUE.is("seed " + seed + ": only too big", h.fault(0), 4);
            }
        }
        DUE.is("enough of them agreed on an end", agreed > HOUSES / 4, true);
        for (int stop : new int[] {0, 1, 2, 3, 6, 7, 9}) {
            DUE.is("STOP " + stop + " was seen", STOPS_SEEN[stop] > 0, true);
        }
        stress();
        DUE.end();
    }

    /** The same one for the same seed: where one object's calls don't suffice, another one is made. */
    private static House built(int seed) {
        House h = new House();
        draft(h, seed);
        h.build();
        return h;
    }

    private static int[][] draft(House h, int seed) {
        Random chance = new Random(seed);
        int n = 1 + chance.nextInt(seed % 10 == 0 ? 110 : 14);
        int[][] items = new int[n + 4][];
        for (int k = 0; k < 8; k++) {
            h.set(0, k, chance.nextInt(3) == 0 ? chance.nextInt() : chance.nextInt(60));
        }
        h.set(0, 4, 400 + chance.nextInt(100));
        for (int k = 0; k < 6; k++) {
            h.set(2, 0, chance.nextInt(100));
            h.set(1, chance.nextInt(1021), chance.nextInt());
        }
        int count = 0;
        int next = 0;
        for (int k = 0; k < n; k++) {
            int[] item;
            if (next < 4 && chance.nextInt(n) < 5) {
                item = new int[] {0, next, next % 2};
                next++;
            } else {
                item = chance.nextInt(5) < 2 ? flow(chance) : plain(chance);
            }
            items[count++] = item;
        }
        for (; next < 4; next++) {
            items[count++] = new int[] {0, next, next % 2};
        }
        items = java.util.Arrays.copyOf(items, count);
        for (int k = 0; k < count; k++) {
            int[] t = items[k];
            int got = t.length == 3 ? h.flow(t[0], t[1], t[2]) : h.plain(t[0], t[1], t[2], t[3], t[4], t[5]);
            DUE.is("ITEM", got, k + 1);
        }
        return items;
    }

    private static int[] flow(Random chance) {
        int label = chance.nextInt(4);
        int c = chance.nextInt(14);
        int[] registers = {0, 1, 2, 3, 5, 6, 7};
        switch (chance.nextInt(10)) {
            case 0: return new int[] {1, label, 0};
            case 1:
            case 2: return new int[] {2, label, c < 10 ? c : c + 2};
            case 3: return new int[] {3, label, 0};
            case 4:
            case 5: return new int[] {4, chance.nextInt(12) == 0 ? 0 : 1 + chance.nextInt(3), 0};
            case 6: return new int[] {5 + chance.nextInt(2), registers[chance.nextInt(3)], 0};
            case 7: return new int[] {7, 0, 0};
            default: return new int[] {8, 1 + 2 * chance.nextInt(2), registers[chance.nextInt(3)]};
        }
    }

    private static int memory(Random chance) {
        int index = chance.nextInt(3) > 0 ? NO : chance.nextInt(8);
        index = index == 4 ? NO : index;
        int base = chance.nextInt(3) > 0 ? NO : chance.nextInt(9);
        return base + 16 * index + (index == NO ? 0 : 256 * chance.nextInt(4));
    }

    private static int number(Random chance) {
        switch (chance.nextInt(4)) {
            case 0: return chance.nextInt();
            case 1: return chance.nextInt(300) - 150;
            default: return chance.nextInt(900);
        }
    }

    private static int[] plain(Random chance) {
        int r = chance.nextInt(8);
        r = r == 4 && chance.nextInt(4) > 0 ? 1 : r;
        int op = chance.nextInt(23);
        op = op == 22 && chance.nextInt(6) > 0 ? 8 : op;
        int form = form(chance, op);
        int x = form == 2 ? chance.nextInt(8) : memory(chance);
        boolean memory = form == 3 || form == 4 || form == 6 || form == 7;
        int i = op >= 14 && op <= 16 ? chance.nextInt(256) : number(chance);
        return new int[] {op, form, form == 0 || form >= 6 ? 0 : r, form == 2 || memory ? x : 0, memory ? number(chance) : 0,
            form == 5 || form == 6 || form == 8 ? i : 0};
    }

    private static int form(Random chance, int op) {
        if (op <= 8) {
            return 2 + chance.nextInt(5);
        }
        switch (op) {
            case 9: return FORMS_OF_TEST[chance.nextInt(2)];
            case 10: return 3;
            case 11: return 2 + chance.nextInt(2);
            case 12:
            case 13: return chance.nextBoolean() ? 1 : 7;
            case 14:
            case 15:
            case 16: return 5 + chance.nextInt(2);
            case 19: return chance.nextBoolean() ? 1 : 8;
            case 17:
            case 18:
            case 20: return 1;
            default: return 0;
        }
    }

    private static void keepsPolicy(int seed) {
        House h = built(seed);
        int[] bytes = new int[h.size()];
        for (int k = 0; k < bytes.length; k++) {
            h = h.callsLeft() > 0 ? h : built(seed);
            bytes[k] = h.code(k);
        }
        House other = new House();
        other.tape(bytes);
        DUE.is("seed " + seed + ": the POLICY is kept", other.check(), 0);
    }

    private static void tellsItems(int seed, int[][] items) {
        House h = built(seed);
        int behind = 0;
        for (int k = 0; k < items.length; k++) {
            h = h.callsLeft() > 10 ? h : built(seed);
            int[] t = items[k];
            int at = h.place(0, k);
            String what = "seed " + seed + ", ITEM " + k;
            DUE.is(what + " is behind the one ahead", at >= behind, true);
            DUE.is(what + " is at a START", h.decoded(at, 7), 1);
            behind = at;
            if (t.length == 6) {
                for (int part = 0; part < 6; part++) {
                    DUE.is(what + ": " + part, h.decoded(at, 1 + part), t[part]);
                }
            } else if (t[0] == 0) {
                DUE.is(what + ": its LABEL", h.place(1, t[1]), at);
                DUE.is(what + ": MARKED", t[2] == 0 || at % 16 == 0, true);
            }
        }
    }

    private static void beside(int seed, House h) {
        int walked = h.walk(WALK_FUEL);
        int ran = h.run(RUN_FUEL);
        STOPS_SEEN[walked]++;
        DUE.is("seed " + seed + ": no STEP at no START", h.state(false, 16), 0);
        DUE.is("seed " + seed + ": a RUN is not BAD", ran == 5, false);
        if (walked == 0 || walked == 7 || walked == 9) {
            return;
        }
        if (ran == 0) {
            return;
        }
        agreed++;
        DUE.is("seed " + seed + ": the STOP", ran, walked);
        for (int k = 0; k < 8; k++) {
            boolean hidden = k == 1 && h.state(true, 17) == 1;
            DUE.is("seed " + seed + ": register " + k, hidden ? 0 : h.state(false, k), h.state(true, k));
        }
        for (int f = 8; f < 12 && walked != 3; f++) {
            int known = h.state(true, f);
            DUE.is("seed " + seed + ": FLAG " + f, known == 2 ? 2 : h.state(false, f), known);
        }
        DUE.is("seed " + seed + ": OUTPUT", h.state(false, 15), h.state(true, 15));
        for (int k = 0; k < h.state(true, 15); k++) {
            DUE.is("seed " + seed + ": output " + k, h.output(false, k), h.output(true, k));
        }
        sameData(seed);
    }

    private static void sameData(int seed) {
        int a = 0;
        while (a < 1024) {
            House h = built(seed);
            h.walk(WALK_FUEL);
            h.run(RUN_FUEL);
            for (; a < 1024 && h.callsLeft() >= 2; a++) {
                DUE.is("seed " + seed + ": data " + a, h.data(false, a), h.data(true, a));
            }
        }
    }

    /** Calls by chance, wrong ones too: nothing but what the document names is ever thrown. */
    private static void stress() {
        for (int seed = 0; seed < 3000; seed++) {
            Random chance = new Random(seed);
            House h = new House();
            while (h.callsLeft() >= 2) {
                one(seed, h, chance);
            }
        }
    }

    private static int odd(Random chance) {
        int[] some = {-1, 0, 1, 2, 7, 8, 16, 100, 119, 120, 255, 256, 1020, 1023, 1024, 5000, 5001, Integer.MAX_VALUE, Integer.MIN_VALUE};
        return chance.nextInt(4) == 0 ? some[chance.nextInt(some.length)] : chance.nextInt(12);
    }

    private static void one(int seed, House h, Random chance) {
        int a = odd(chance);
        int b = odd(chance);
        int c = odd(chance);
        boolean walk = chance.nextBoolean();
        String name = "";
        try {
            switch (chance.nextInt(20)) {
                case 0: h.feed(0x90909090, 0x90909090, 0x90909090, chance.nextInt(), chance.nextInt()); break;
                case 1: h.end(chance.nextInt(3) == 0 ? a : 16); break;
                case 2: h.check(); break;
                case 3: h.fault(a); break;
                case 4:
                case 5:
                case 6: h.plain(a, b, c, odd(chance), odd(chance), odd(chance)); break;
                case 7:
                case 8: h.flow(a, b, c); break;
                case 9: h.clear(); break;
                case 10: h.build(); break;
                case 11: h.size(); break;
                case 12: h.code(a); break;
                case 13: name = "NoSuchElementException"; h.decoded(a, b); break;
                case 14: h.place(a, b); break;
                case 15: h.set(a, b, c); break;
                case 16: name = "Illegal"; h.run(a); break;
                case 17: name = "Illegal"; h.walk(a); break;
                case 18: name = "NoSuchElementException"; h.state(walk, a); break;
                default: name = "NoSuchElementException"; h.data(walk, a); h.output(walk, b); break;
            }
        } catch (RuntimeException e) {
            String got = e.getClass().getSimpleName();
            boolean due = !name.isEmpty() && got.startsWith(name);
            if (!due) {
                System.out.println("seed " + seed + " threw " + e);
            }
            DUE.is("what is thrown", due, true);
        }
    }
}
