/** III. THE POLICY, sentence by sentence: each boundary case has a test of its own. */
final class PolicyEdgesTest {
    private static final Due DUE = new Due();
    private static final int MIN = Integer.MIN_VALUE;
    private static final int MAX = Integer.MAX_VALUE;

    public static void main(String[] args) {
        sizes();
        sizeIsAheadOfAll();
        bundlesBeginAnew();
        startsOfThisTapeAlone();
        firstPlaceThenLeast();
        noInstruction();
        beyondTheEnd();
        ret();
        beyondItsBundle();
        pairs();
        pairsOfEachRegister();
        pairsInOneBundle();
        pairsAreOneAnd();
        lastOfItsBundle();
        targetsOnlyThen();
        targetsOfServices();
        targetsOfStarts();
        targetsOfPairs();
        targetsOutside();
        targetsWrap();
        DUE.end();
    }

    private static void holds(String what, int fault, int place, int... bytes) {
        House h = new House();
        h.tape(bytes);
        DUE.is(what + ": check", h.check(), fault);
        DUE.is(what + ": fault(0)", h.fault(0), fault);
        DUE.is(what + ": fault(1)", h.fault(1), fault == 0 ? -1 : place);
        DUE.is(what + ": size", h.size(), fault == 0 ? bytes.length : 0);
    }

    private static int[] nops(int n, int at, int... bytes) {
        return House.with(House.filled(n, 144), at, bytes);
    }

    private static void sizes() {
        DUE.sentence("III", "1, at n: n is not 16, 32, .. 1024");
        for (int n = 0; n <= 1100; n++) {
            boolean is = n >= 16 && n <= 1024 && n % 16 == 0;
            holds("n " + n, is ? 0 : 1, n, House.filled(n, 144));
        }
    }

    private static void sizeIsAheadOfAll() {
        DUE.sentence("III", "If it is, the first place (from 0 on) where one is told");
        holds("n 15 with no INSTRUCTION", 1, 15, House.filled(15, 0));
        holds("n 17 with RET", 1, 17, House.filled(17, 195));
        holds("n 1040 with GO alone", 1, 1040, nops(1040, 0, 255, 224));
    }

    private static void bundlesBeginAnew() {
        DUE.sentence("III", "In each, from its beginning on, one INSTRUCTION stands behind the other: these are its STARTS");
        for (int bundle = 0; bundle < 64; bundle += 9) {
            holds("BUNDLE " + bundle, 2, 16 * bundle, nops(1024, 16 * bundle, 0));
            holds("BUNDLE " + bundle + ", its end", 2, 16 * bundle + 15, nops(1024, 16 * bundle + 15, 0));
        }
        House h = new House();
        h.tape(nops(32, 11, 184, 144, 144, 144, 144, 144, 64));
        DUE.is("check", h.check(), 0);
        for (int at = 0; at < 32; at++) {
            DUE.is("START " + at, h.decoded(at, 7), at > 11 && at < 16 ? 0 : 1);
        }
    }

    /** Place 3 was a START of the TAPE ahead; of this one it is inside of a MOV. */
    private static void startsOfThisTapeAlone() {
        DUE.sentence("III", "In each, from its beginning on, one INSTRUCTION stands behind the other: these are its STARTS");
        int[] inside = nops(32, 0, 235, 1, 184, 144, 144, 144, 144);
        int[][] ahead = {House.filled(32, 144), House.filled(1024, 144), nops(32, 31, 0), House.padded(144, 235, 100)};
        for (int k = 0; k < ahead.length; k++) {
            House h = new House();
            h.tape(ahead[k]);
            h.check();
            h.tape(inside);
            DUE.is("behind TAPE " + k + ": check", h.check(), 6);
            DUE.is("behind TAPE " + k + ": its place", h.fault(1), 0);
        }
        House pair = new House();
        pair.tape(nops(16, 0, 131, 224, 240, 255, 224));
        pair.check();
        pair.tape(nops(16, 0, 235, 1));
        DUE.is("where a PAIR was: check", pair.check(), 0);
        DUE.is("it is a START", pair.decoded(3, 7), 1);
    }

    private static void firstPlaceThenLeast() {
        DUE.sentence("III", "the first place (from 0 on) where one is told, there the least");
        holds("2 ahead of a later 3", 2, 3, House.with(nops(32, 3, 0), 15, 49, 192));
        holds("3 ahead of a later 2", 3, 15, House.with(nops(48, 15, 49, 192), 33, 0));
        holds("4 ahead of a later 2", 4, 1, House.with(nops(32, 1, 255, 224), 20, 195));
        holds("5 ahead of a later 2", 5, 1, House.with(nops(32, 1, 232, 0, 0, 0, 0), 20, 195));
        holds("2 ahead of a later 5", 2, 1, House.with(nops(32, 1, 195), 20, 232, 0, 0, 0, 0));
        holds("3 and 4 at one place", 3, 15, nops(32, 15, 255, 224));
        holds("3 and 5 at one place", 3, 14, nops(32, 14, 232, 0, 0, 0, 0));
        holds("3, 4 and 5 at one place", 3, 15, nops(32, 15, 255, 208));
        holds("4 and 5 at one place", 4, 0, nops(16, 0, 255, 208));
        holds("2 and 3 at one place", 2, 31, nops(32, 31, 255));
        // The place of 3 in the first BUNDLE is ahead of all that the second one has.
        holds("the second BUNDLE is not looked at", 3, 12, House.with(nops(32, 12, 184), 16, 0));
    }

    private static void noInstruction() {
        DUE.sentence("III", "2 no INSTRUCTION there");
        for (int at = 0; at < 16; at++) {
            holds("at " + at, 2, at, nops(16, at, 98));
        }
        holds("c 10", 2, 0, nops(16, 0, 122, 0));
        holds("c 11", 2, 0, nops(16, 0, 123, 0));
        holds("c 10, LONG", 2, 0, nops(16, 0, 15, 138, 0, 0, 0, 0));
        holds("c 11, LONG", 2, 0, nops(16, 0, 15, 139, 0, 0, 0, 0));
        holds("LEA of a register", 2, 0, nops(16, 0, 141, 192));
        holds("GO of a WORD", 2, 0, nops(16, 0, 255, 32));
        holds("GOSUB of a WORD", 2, 0, nops(16, 0, 255, 16));
    }

    private static void beyondTheEnd() {
        DUE.sentence("III", "2 .. one that goes beyond THE CODE'S end");
        for (int at = 12; at < 16; at++) {
            holds("MOV at " + at, 2, at, House.with(House.filled(16, 144), at, java.util.Arrays.copyOf(new int[] {184, 0, 0, 0}, 16 - at)));
            holds("MOV at " + at + " of another BUNDLE", 3, at, nops(32, at, 184, 144, 144, 144, 144));
        }
        holds("MOV just up to the end", 0, -1, nops(16, 11, 184, 0, 0, 0, 0));
        holds("of the longest CODE", 2, 1023, nops(1024, 1023, 235));
        holds("BYTES of an older TAPE don't count", 2, 15, nops(16, 15, 235));
        House older = new House();
        older.tape(House.filled(32, 144));
        older.end(16);
        older.end(15);
        older.feed(0xB8000000, 0, 0, 0, 0);
        older.end(16);
        DUE.is("BYTES behind the TAPE'S end don't count", older.check(), 2);
        DUE.is("at", older.fault(1), 15);
    }

    private static void ret() {
        DUE.sentence("III", "2 .. or RET");
        for (int at = 0; at < 32; at += 5) {
            holds("RET at " + at, 2, at, nops(32, at, 195));
        }
        holds("RET at no START", 0, -1, nops(16, 0, 184, 195, 195, 195, 195));
    }

    private static void beyondItsBundle() {
        DUE.sentence("III", "3 one that goes beyond its BUNDLE");
        int[][] some = {{49, 192}, {131, 192, 5}, {235, 0}, {184, 0, 0, 0, 0}, {15, 132, 0, 0, 0, 0}, {139, 128, 0, 0, 0, 0}, {199, 128, 0, 0, 0, 0, 1, 0, 0, 0},
            {129, 132, 36, 0, 0, 0, 0, 1, 0, 0, 0}};
        for (int[] one : some) {
            for (int at = 0; at < 16; at++) {
                boolean fits = at + one.length <= 16;
                boolean jumps = one[0] == 235 || one[0] == 15;
                // What comes next is a START, at the BUNDLE'S end, too.
                holds("BYTES " + one[0] + " at " + at, fits ? 0 : 3, at, nops(48, at, one));
                holds("BYTES " + one[0] + " at " + (16 + at), fits ? jumps && at + one.length == 16 ? 6 : 0 : 2, 16 + at,
                    nops(32, 16 + at, java.util.Arrays.copyOf(one, Math.min(one.length, 16 - at))));
            }
        }
    }

    private static void pairs() {
        DUE.sentence("III", "4 GO or GOSUB that isn't right behind an AND of the same R with -16 (131, /4, 240), as its BUNDLE has them: a PAIR");
        holds("GO first in its BUNDLE", 4, 0, nops(16, 0, 255, 224));
        holds("GO in a PAIR", 0, -1, nops(16, 0, 131, 224, 240, 255, 224));
        holds("GO at the BUNDLE'S end in a PAIR", 0, -1, nops(16, 11, 131, 224, 240, 255, 224));
        holds("a NOP between", 4, 4, nops(16, 0, 131, 224, 240, 144, 255, 224));
        holds("a NOP ahead alone", 4, 1, nops(16, 0, 144, 255, 224));
        holds("AND with -15", 4, 3, nops(16, 0, 131, 224, 241, 255, 224));
        holds("AND with -32", 4, 3, nops(16, 0, 131, 224, 224, 255, 224));
        holds("AND with 112", 4, 3, nops(16, 0, 131, 224, 112, 255, 224));
        for (int g = 0; g < 8; g++) {
            holds("OP " + g + " with -16", g == 4 ? 0 : 4, 3, nops(16, 0, 131, 192 + 8 * g, 240, 255, 224));
        }
        holds("AND of the WORD at register 0", 4, 3, nops(16, 0, 131, 32, 240, 255, 224));
        holds("AND by 129", 4, 6, nops(16, 0, 129, 224, 240, 255, 255, 255, 255, 224));
        holds("MOV 0, -16", 4, 5, nops(16, 0, 184, 240, 255, 255, 255, 255, 224));
        holds("its BYTES inside of another one", 4, 5, nops(16, 0, 184, 0, 131, 224, 240, 255, 224));
    }

    private static void pairsOfEachRegister() {
        DUE.sentence("III", "4 GO or GOSUB that isn't right behind an AND of the same R");
        for (int a = 0; a < 8; a++) {
            for (int b = 0; b < 8; b++) {
                holds("AND " + a + ", GO " + b, a == b ? 0 : 4, 3, nops(16, 0, 131, 224 + a, 240, 255, 224 + b));
                holds("AND " + a + ", GOSUB " + b, a == b ? 0 : 4, 14, nops(16, 11, 131, 224 + a, 240, 255, 208 + b));
            }
        }
    }

    private static void pairsInOneBundle() {
        DUE.sentence("III", "as its BUNDLE has them: a PAIR");
        holds("AND in the BUNDLE ahead", 4, 16, nops(32, 13, 131, 224, 240, 255, 224));
        holds("AND in the BUNDLE ahead, GOSUB", 4, 16, House.with(nops(32, 13, 131, 224, 240), 16, 255, 208));
    }

    private static void pairsAreOneAnd() {
        DUE.sentence("III", "right behind an AND");
        holds("a second GO", 4, 5, nops(16, 0, 131, 224, 240, 255, 224, 255, 224));
        holds("two PAIRS", 0, -1, nops(16, 0, 131, 224, 240, 255, 224, 131, 225, 240, 255, 225));
        holds("two ANDS, the first one's register", 4, 6, nops(16, 0, 131, 224, 240, 131, 225, 240, 255, 224));
        holds("two ANDS, the second one's register", 0, -1, nops(16, 0, 131, 224, 240, 131, 225, 240, 255, 225));
        holds("AND alone", 0, -1, nops(16, 0, 131, 224, 240));
    }

    private static void lastOfItsBundle() {
        DUE.sentence("III", "5 CALL or GOSUB that doesn't end with its BUNDLE");
        for (int at = 0; at <= 11; at++) {
            holds("CALL at " + at, at == 11 ? 0 : 5, at, nops(32, at, 232, 0, 0, 0, 0));
            holds("CALL at " + (16 + at), at == 11 ? 0 : 5, 16 + at, nops(48, 16 + at, 232, 0, 0, 0, 0));
            holds("GOSUB, its AND at " + at, at == 11 ? 0 : 5, at + 3, nops(16, at, 131, 226, 240, 255, 210));
            holds("GO, its AND at " + at, 0, -1, nops(16, at, 131, 226, 240, 255, 226));
        }
    }

    private static void targetsOnlyThen() {
        DUE.sentence("III", "If there is none: 6");
        holds("6 at 0, but 2 at 31", 2, 31, House.with(nops(32, 0, 235, 100), 31, 195));
        holds("6 at 0, but 3 at 15", 3, 15, House.with(nops(32, 0, 235, 100), 15, 49, 192));
        holds("6 at 0, but 4 at 4", 4, 4, House.with(nops(32, 0, 235, 100), 4, 255, 224));
        holds("6 at 0, but 5 at 4", 5, 4, House.with(nops(32, 0, 235, 100), 4, 232, 0, 0, 0, 0));
        holds("the first 6", 6, 4, nops(48, 4, 235, 100, 116, 100));
        holds("a 6 in the last BUNDLE", 6, 40, nops(48, 40, 116, 100));
        holds("only STARTS are looked at", 0, -1, nops(32, 0, 184, 235, 100, 235, 100));
    }

    /** JUMP, BRANCH or CALL that ends at 16, to this address. */
    private static int[] to(int sort, int address, int... behind) {
        int i = address - 272;
        int[] four = {i & 255, i >> 8 & 255, i >> 16 & 255, i >>> 24};
        int[] lead = sort == 0 ? new int[] {233} : sort == 1 ? new int[] {15, 132} : new int[] {232};
        int at = 12 - lead.length;
        return House.with(House.with(nops(48, at, lead), 12, four), 16, behind);
    }

    private static int at(int sort) {
        return sort == 1 ? 10 : 11;
    }

    private static void targetsOfServices() {
        DUE.sentence("III", "6 JUMP, BRANCH or CALL whose TARGET is neither a SERVICE");
        for (int sort = 0; sort < 3; sort++) {
            for (int address = -34; address <= 256; address++) {
                boolean is = address == 0 || address == 16 || address == 32 || address == 48 || address == 256;
                holds("sort " + sort + " to " + address, is ? 0 : 6, at(sort), to(sort, address));
            }
        }
    }

    private static void targetsOfStarts() {
        DUE.sentence("III", "6 .. nor a START");
        int[] behind = {184, 144, 144, 144, 144, 49, 192, 144, 184, 144, 144, 144, 144, 144, 144, 144};
        boolean[] starts = new boolean[48];
        for (int k = 0; k < 48; k++) {
            starts[k] = k < 16 || k >= 32;
        }
        for (int k : new int[] {16, 21, 23, 24, 29, 30, 31}) {
            starts[k] = true;
        }
        for (int sort = 0; sort < 3; sort++) {
            for (int k = 0; k < 48; k++) {
                boolean inside = k > at(sort) && k < 16;
                holds("sort " + sort + " to 256 + " + k, starts[k] && !inside ? 0 : 6, at(sort), to(sort, 256 + k, behind));
            }
        }
    }

    private static void targetsOfPairs() {
        DUE.sentence("III", "(that of the second one of a PAIR is none for it)");
        for (int sort = 0; sort < 3; sort++) {
            holds("the AND", 0, -1, to(sort, 272, 131, 224, 240, 255, 224));
            holds("the GO", 6, at(sort), to(sort, 275, 131, 224, 240, 255, 224));
            holds("behind it", 0, -1, to(sort, 277, 131, 224, 240, 255, 224));
            holds("the GOSUB", 6, at(sort), to(sort, 286, House.with(House.filled(16, 144), 11, 131, 224, 240, 255, 208)));
        }
    }

    private static void targetsOutside() {
        DUE.sentence("III", "6 .. nor a START");
        for (int sort = 0; sort < 3; sort++) {
            holds("behind THE CODE", 6, at(sort), to(sort, 304));
            holds("far behind it", 6, at(sort), to(sort, 304 + 16));
            holds("1280", 6, at(sort), to(sort, 1280));
        }
        holds("CALL at the very end", 6, 11, nops(16, 11, 232, 0, 0, 0, 0));
        holds("JUMP at the very end", 6, 14, nops(16, 14, 235, 0));
        holds("from the longest CODE'S end to EXIT", 0, -1, nops(1024, 1019, 233, 0, 251, 255, 255));
        holds("from its end to its beginning", 0, -1, nops(1024, 1019, 233, 0, 252, 255, 255));
        holds("from its beginning to its end", 0, -1, nops(1024, 0, 233, 250, 3, 0, 0));
        holds("and one more", 6, 0, nops(1024, 0, 233, 251, 3, 0, 0));
    }

    private static void targetsWrap() {
        DUE.sentence("III", "6 JUMP, BRANCH or CALL whose TARGET is neither ..");
        for (int sort = 0; sort < 3; sort++) {
            for (int i : new int[] {MAX, MAX - 1, MIN, MIN + 1, MAX - 272, MAX - 271, MIN + 272, MAX - 15, MIN + 16}) {
                holds("I " + i, 6, at(sort), to(sort, 272 + i));
            }
        }
    }
}
