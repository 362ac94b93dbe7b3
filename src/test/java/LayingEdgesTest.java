/** IV. PROGRAMS, how THE DRAFT is built, sentence by sentence: each boundary case has a test of its own. */
final class LayingEdgesTest {
    private static final Due DUE = new Due();
    private static final int MIN = Integer.MIN_VALUE;
    private static final int MAX = Integer.MAX_VALUE;
    private static final int NO = 8;
    private static final int DIRECT = 136;

    public static void main(String[] args) {
        toldAlready();
        toldNowhere();
        notMarked();
        firstItemThenLeast();
        tooMany();
        piecesThatDontFit();
        lastPieces();
        nopsBetween();
        haltsBehind();
        labelsPlaces();
        markedLabels();
        itemsPlaces();
        returnsAreTwoPieces();
        pairsAreOnePiece();
        addresses();
        shortOrLong();
        branchesOfEachCondition();
        becomesLongByOthers();
        staysLong();
        allAtOnce();
        longsMakeItTooMany();
        numbersOfOneByte();
        formTwo();
        memoryBytes();
        DUE.end();
    }

    private static House drafting(int[]... flows) {
        House h = new House();
        for (int[] one : flows) {
            h.flow(one[0], one[1], one[2]);
        }
        return h;
    }

    private static void fault(String what, int want, int item, House h) {
        DUE.is(what + ": build", h.build(), want);
        DUE.is(what + ": fault(0)", h.fault(0), want);
        DUE.is(what + ": fault(1)", h.fault(1), item);
    }

    private static int[] f(int sort, int a, int b) {
        return new int[] {sort, a, b};
    }

    private static void toldAlready() {
        DUE.sentence("IV", "1 a LABEL that was told already");
        fault("twice", 1, 1, drafting(f(0, 0, 0), f(0, 0, 0)));
        fault("twice, MARKED", 1, 1, drafting(f(0, 39, 1), f(0, 39, 1)));
        fault("one MARKED", 1, 1, drafting(f(0, 39, 0), f(0, 39, 1)));
        fault("three times: the second one", 1, 2, drafting(f(0, 5, 0), f(0, 6, 0), f(0, 5, 0), f(0, 5, 0)));
        fault("far behind", 1, 3, drafting(f(0, 5, 0), f(7, 0, 0), f(1, 5, 0), f(0, 5, 0)));
        House all = new House();
        for (int label = 0; label < 40; label++) {
            all.flow(0, label, label % 2);
        }
        fault("all of them once", 0, -1, all);
    }

    private static void toldNowhere() {
        DUE.sentence("IV", "2 a LABEL that is told nowhere is named");
        for (int sort : new int[] {1, 2, 3, 8}) {
            for (int label : new int[] {0, 39}) {
                fault("sort " + sort, 2, 0, drafting(f(sort, label, 0)));
                fault("sort " + sort + ", another one is told", 2, 1, drafting(f(0, 20, 1), f(sort, label, 0)));
                fault("sort " + sort + ", told later", 0, -1, drafting(f(sort, label, 0), f(0, label, 1)));
                fault("sort " + sort + ", told ahead", 0, -1, drafting(f(0, label, 1), f(sort, label, 0)));
            }
        }
        for (int sort : new int[] {4, 5, 6, 7}) {
            fault("sort " + sort + " names none", 0, -1, drafting(f(sort, 3, 0)));
        }
    }

    private static void notMarked() {
        DUE.sentence("IV", "3 ADDRESS of a LABEL that isn't MARKED");
        fault("told ahead", 3, 1, drafting(f(0, 3, 0), f(8, 3, 0)));
        fault("told behind", 3, 0, drafting(f(8, 3, 0), f(0, 3, 0)));
        fault("another one is MARKED", 3, 0, drafting(f(8, 3, 0), f(0, 3, 0), f(0, 4, 1)));
        fault("MARKED, told behind", 0, -1, drafting(f(8, 3, 0), f(0, 3, 1)));
        for (int sort = 1; sort <= 3; sort++) {
            fault("sort " + sort + " needs none", 0, -1, drafting(f(sort, 3, 0), f(0, 3, 0)));
        }
    }

    private static void firstItemThenLeast() {
        DUE.sentence("IV", "FAULTS, the first ITEM with one");
        fault("2, then 1", 2, 1, drafting(f(0, 3, 0), f(1, 4, 0), f(0, 3, 0)));
        fault("1, then 2", 1, 1, drafting(f(0, 3, 0), f(0, 3, 0), f(1, 4, 0)));
        fault("3, then 2", 3, 1, drafting(f(0, 3, 0), f(8, 3, 0), f(1, 4, 0)));
        fault("2, then 3", 2, 1, drafting(f(0, 3, 0), f(1, 4, 0), f(8, 3, 0)));
        fault("3, then 1", 3, 2, drafting(f(0, 3, 0), f(0, 4, 0), f(8, 4, 0), f(0, 3, 0)));
        fault("1, then 3", 1, 2, drafting(f(0, 3, 0), f(0, 4, 0), f(0, 3, 0), f(8, 4, 0)));
        fault("two of 2", 2, 0, drafting(f(3, 4, 0), f(2, 5, 0)));
    }

    private static House services(int n) {
        House h = new House();
        for (int k = 0; k < n; k++) {
            h.flow(4, 0, 0);
        }
        return h;
    }

    private static void tooMany() {
        DUE.sentence("IV", "If there is none: 4 (at NONE) THE CODE would have more than 1024 BYTES");
        House h = services(63);
        fault("63 BUNDLES and the HALTS", 0, -1, h);
        DUE.is("size", h.size(), 1024);
        h.nops(15);
        fault("63 BUNDLES, 15 BYTES and a HALT", 0, -1, h);
        DUE.is("size", h.size(), 1024);
        DUE.is("the HALT", h.code(1023), 244);
        h.plain(21, 0, 0, 0, 0, 0);
        fault("64 BUNDLES and a HALT", 4, -1, h);
        DUE.is("size as it was", h.size(), 1024);
        fault("64 SERVICES", 4, -1, services(64));
        fault("120 SERVICES", 4, -1, services(120));
        House marked = services(63);
        marked.plain(21, 0, 0, 0, 0, 0);
        marked.flow(0, 0, 1);
        fault("a MARKED LABEL at 1024", 4, -1, marked);
        House first = services(63);
        first.flow(0, 0, 1);
        fault("a MARKED LABEL at 1008", 0, -1, first);
        House other = services(64);
        other.flow(1, 0, 0);
        fault("another FAULT is ahead", 2, 64, other);
    }

    private static void piecesThatDontFit() {
        DUE.sentence("IV", "one that doesn't fit into what its BUNDLE has left is laid at the next one");
        int[][] plains = {{21, 0, 0, 0, 1}, {8, 2, 0, 0, 2}, {0, 5, 0, 5, 3}, {8, 5, 0, 0, 5}, {0, 5, 0, 500, 6}, {8, 6, DIRECT, 5, 10}, {7, 6, 7 + 16 * 7, 500, 11}};
        for (int[] p : plains) {
            for (int ahead = 0; ahead <= 17; ahead++) {
                House h = new House();
                h.nops(ahead);
                h.plain(p[0], p[1], 0, p[2], 1000, p[3]);
                DUE.is("build", h.build(), 0);
                int left = 16 - ahead % 16;
                int want = p[4] <= left ? ahead : ahead + left;
                DUE.is(p[4] + " BYTES behind " + ahead, h.place(0, ahead), want);
                DUE.is("its BYTES", h.decoded(want, 0), p[4]);
                DUE.is("a START", h.decoded(want, 7), 1);
                DUE.is("size", h.size(), (want + p[4]) / 16 * 16 + 16);
            }
        }
    }

    private static void lastPieces() {
        DUE.sentence("IV", "a LAST piece ends with a BUNDLE (the first one in which it can)");
        for (int ahead = 0; ahead <= 34; ahead++) {
            int bundle = ahead / 16 * 16;
            int want = ahead % 16 <= 11 ? bundle + 11 : bundle + 27;
            for (int sort : new int[] {3, 4, 6}) {
                House h = new House();
                h.nops(ahead);
                h.flow(sort, 0, 0);
                h.flow(0, 0, 0);
                h.build();
                DUE.is("sort " + sort + " behind " + ahead, h.place(0, ahead), want);
                DUE.is("behind it", h.place(1, 0), want + 5);
                DUE.is("size", h.size(), want + 5 + 16);
            }
        }
    }

    private static void nopsBetween() {
        DUE.sentence("IV", "NOPS fill what is left between");
        House h = new House();
        h.plain(17, 1, 0, 0, 0, 0);
        h.flow(4, 0, 0);
        h.nops(13);
        h.plain(8, 5, 0, 0, 0, 0);
        h.flow(0, 0, 1);
        h.plain(17, 1, 0, 0, 0, 0);
        h.build();
        for (int k = 0; k < 48; k++) {
            boolean laid = k == 0 || k >= 11 && k < 16 || k >= 32 && k < 37;
            DUE.is("BYTE " + k, !laid ? h.code(k) : 144, 144);
        }
        DUE.is("the last piece", h.code(48), 64);
        DUE.is("HALT behind it", h.code(49), 244);
    }

    private static void haltsBehind() {
        DUE.sentence("IV", "Behind all a HALT, and HALTS up to its BUNDLE'S end");
        for (int n = 0; n <= 33; n++) {
            House h = new House();
            h.nops(n);
            h.build();
            DUE.is("size", h.size(), n / 16 * 16 + 16);
            for (int k = 0; k < h.size(); k++) {
                DUE.is("BYTE " + k + " behind " + n, h.code(k), k < n ? 144 : 244);
            }
        }
        House h = new House();
        h.plain(22, 0, 0, 0, 0, 0);
        h.build();
        DUE.is("a HALT of the DRAFT'S own", h.size(), 16);
        h.plain(17, 1, 0, 0, 0, 0);
        h.build();
        DUE.is("it is one BYTE", h.code(0), 244);
        DUE.is("and the next ITEM is behind it", h.code(1), 64);
        House last = services(1);
        last.build();
        DUE.is("a BUNDLE of HALTS", last.size(), 32);
        DUE.is("its first one", last.code(16), 244);
        DUE.is("its last one", last.code(31), 244);
    }

    private static void labelsPlaces() {
        DUE.sentence("IV", "A LABEL'S place is where the next BYTE is laid, be it a NOP");
        for (int ahead = 0; ahead <= 17; ahead++) {
            House h = new House();
            h.nops(ahead);
            h.flow(0, 0, 0);
            h.flow(0, 1, 0);
            h.flow(4, 0, 0);
            h.flow(0, 2, 0);
            h.flow(1, 0, 0);
            h.build();
            DUE.is("ahead of NOPS and a CALL", h.place(1, 0), ahead);
            DUE.is("two of them", h.place(1, 1), ahead);
            DUE.is("behind it", h.place(1, 2), ahead > 11 && ahead < 16 || ahead > 16 + 11 ? 32 : ahead < 12 ? 16 : 32);
            DUE.is("a JUMP goes there", h.place(1, 2) + 2 + h.decoded(h.place(1, 2), 6), ahead);
        }
        House wide = new House();
        wide.nops(13);
        wide.flow(0, 0, 0);
        wide.plain(8, 5, 0, 0, 0, 0);
        wide.build();
        DUE.is("ahead of what doesn't fit", wide.place(1, 0), 13);
        DUE.is("which is", wide.place(0, 14), 16);
        House end = new House();
        end.nops(3);
        end.flow(0, 0, 0);
        end.build();
        DUE.is("ahead of the HALT", end.place(1, 0), 3);
    }

    private static void markedLabels() {
        DUE.sentence("IV", "if it is MARKED, it is at the beginning of a BUNDLE (this one, if nothing is laid there yet)");
        for (int ahead = 0; ahead <= 33; ahead++) {
            House h = new House();
            h.nops(ahead);
            h.flow(0, 0, 0);
            h.flow(0, 1, 1);
            h.flow(0, 2, 1);
            h.flow(0, 3, 0);
            h.build();
            int want = (ahead + 15) / 16 * 16;
            DUE.is("not MARKED, ahead of it", h.place(1, 0), ahead);
            DUE.is("MARKED behind " + ahead, h.place(1, 1), want);
            DUE.is("a second one", h.place(1, 2), want);
            DUE.is("not MARKED, behind it", h.place(1, 3), want);
            DUE.is("its ITEM", h.place(0, ahead + 1), want);
            DUE.is("HALT there", h.code(want), 244);
            DUE.is("NOP ahead of it", want > ahead ? h.code(want - 1) : 144, 144);
        }
    }

    private static void itemsPlaces() {
        DUE.sentence("IV", "An ITEM'S place is where its (first) piece begins, of a LABEL its own");
        House h = new House();
        h.nops(12);
        h.flow(7, 0, 0);
        h.flow(6, 0, 0);
        h.flow(0, 0, 0);
        h.flow(0, 1, 1);
        h.flow(5, 0, 0);
        h.build();
        int[] want = {12, 27, 32, 32, 32};
        for (int k = 0; k < want.length; k++) {
            DUE.is("ITEM " + (12 + k), h.place(0, 12 + k), want[k]);
        }
    }

    private static void returnsAreTwoPieces() {
        DUE.sentence("IV", "RETURN: POP 1, a piece; then like GO 1");
        for (int ahead = 0; ahead <= 17; ahead++) {
            House h = new House();
            h.nops(ahead);
            h.flow(7, 0, 0);
            h.flow(0, 0, 0);
            h.build();
            int pair = (ahead + 1) % 16 <= 11 ? ahead + 1 : ahead / 16 * 16 + 16;
            int[] bytes = {131, 225, 240, 255, 225};
            DUE.is("POP 1", h.code(ahead), 89);
            DUE.is("its place", h.place(0, ahead), ahead);
            for (int k = 0; k < 5; k++) {
                DUE.is("the PAIR behind " + ahead, h.code(pair + k), bytes[k]);
            }
            for (int k = ahead + 1; k < pair; k++) {
                DUE.is("NOPS between", h.code(k), 144);
            }
            DUE.is("it is a PAIR", h.decoded(pair + 3, 7), 2);
            DUE.is("behind it", h.place(1, 0), pair + 5);
        }
    }

    private static void pairsAreOnePiece() {
        DUE.sentence("IV", "GO: AND with -16 and GO, a PAIR");
        for (int ahead = 0; ahead <= 17; ahead++) {
            House h = new House();
            h.nops(ahead);
            h.flow(5, 6, 0);
            h.build();
            int want = ahead % 16 <= 11 ? ahead : ahead / 16 * 16 + 16;
            int[] bytes = {131, 230, 240, 255, 230};
            DUE.is("its place", h.place(0, ahead), want);
            for (int k = 0; k < 5; k++) {
                DUE.is("GO behind " + ahead, h.code(want + k), bytes[k]);
            }
        }
        DUE.sentence("IV", "GOSUB: AND with -16 and GOSUB, a PAIR, LAST");
        House h = new House();
        h.flow(6, 7, 0);
        h.build();
        int[] bytes = {131, 231, 240, 255, 215};
        for (int k = 0; k < 5; k++) {
            DUE.is("GOSUB", h.code(11 + k), bytes[k]);
        }
    }

    private static void addresses() {
        DUE.sentence("IV", "ADDRESS: MOV (184 + R) with 256 + the LABEL'S place");
        for (int r = 0; r < 8; r++) {
            House h = new House();
            h.flow(0, 0, 1);
            h.flow(8, 0, r);
            h.flow(8, 1, r);
            h.flow(0, 1, 1);
            h.build();
            int[] want = {184 + r, 0, 1, 0, 0, 184 + r, 16, 1, 0, 0};
            for (int k = 0; k < 10; k++) {
                DUE.is("BYTE " + k, h.code(k), want[k]);
            }
        }
        House far = services(62);
        far.flow(8, 0, 0);
        far.flow(0, 0, 1);
        far.build();
        DUE.is("the farthest one", far.decoded(992, 6), 256 + 1008);
    }

    /** n BYTES in few ITEMS, from a BUNDLE'S beginning on, each BUNDLE full. */
    private static void fill(House h, int n) {
        for (int k = 0; k < n / 16; k++) {
            h.plain(7, 6, 0, 7 + 16 * 7, 200, 400);
            h.plain(8, 5, 0, 0, 0, 0);
        }
        h.nops(n % 16);
    }

    private static void shortOrLong() {
        DUE.sentence("IV", "All JUMPS and BRANCHES are SHORT at first; those whose I is not -128 .. 127 become LONG");
        for (int sort = 1; sort <= 2; sort++) {
            int length = sort == 1 ? 5 : 6;
            for (int on = 120; on <= 140; on++) {
                House h = new House();
                h.flow(sort, 0, 4);
                h.nops(14);
                fill(h, on - 14);
                h.flow(0, 0, 0);
                h.build();
                boolean isShort = on <= 127;
                DUE.is("on by " + on, h.decoded(0, 0), isShort ? 2 : length);
                DUE.is("I", h.decoded(0, 6), h.place(1, 0) - (isShort ? 2 : length));
                DUE.is("its first BYTE", h.code(0), isShort ? sort == 1 ? 235 : 116 : sort == 1 ? 233 : 15);
            }
            for (int back = 120; back <= 140; back++) {
                House h = new House();
                h.nops(142 - back);
                h.flow(0, 0, 0);
                h.nops((back + 2) % 16);
                int at = 144 - (142 - back) - (back + 2) % 16;
                fill(h, at / 16 * 16);
                h.flow(sort, 0, 4);
                h.build();
                int place = h.place(0, h.place(2, 0) - 1);
                int length2 = h.decoded(place, 0);
                int reach = h.place(1, 0) - (place + 2);
                DUE.is("back by " + reach, length2, reach >= -128 ? 2 : length);
                DUE.is("I", h.decoded(place, 6), h.place(1, 0) - (place + length2));
            }
        }
        justBack();
    }

    private static void branchesOfEachCondition() {
        DUE.sentence("IV", "JUMP, BRANCH: SHORT (with I1) or LONG");
        for (int c = 0; c < 16; c++) {
            if (c != 10 && c != 11) {
                House near = drafting(f(2, 0, c), f(0, 0, 0));
                near.build();
                DUE.is("SHORT, c " + c, near.code(0), 112 + c);
                DUE.is("its I", near.code(1), 0);
                House far = drafting(f(2, 0, c));
                for (int k = 0; k < 9; k++) {
                    far.flow(4, 0, 0);
                }
                far.flow(0, 0, 0);
                far.build();
                int[] want = {15, 128 + c, 144 - 6, 0, 0, 0};
                for (int k = 0; k < want.length; k++) {
                    DUE.is("LONG, c " + c + ": BYTE " + k, far.code(k), want[k]);
                }
            }
        }
    }

    /** 128 back is SHORT, 129 back is LONG. */
    private static void justBack() {
        for (int sort = 1; sort <= 2; sort++) {
            for (int ahead = 0; ahead <= 3; ahead++) {
                House h = new House();
                h.nops(ahead);
                h.flow(0, 0, 0);
                h.nops(16 - ahead);
                fill(h, 112);
                h.flow(sort, 0, 4);
                h.build();
                int far = ahead - 130;
                boolean isShort = far >= -128;
                DUE.is("back by " + far, h.decoded(128, 0), isShort ? 2 : sort == 1 ? 5 : 6);
                DUE.is("I", h.decoded(128, 6), isShort ? far : ahead - 128 - (sort == 1 ? 5 : 6));
            }
        }
    }

    private static void becomesLongByOthers() {
        DUE.sentence("IV", "all is laid anew, and so on till there is none");
        // The second one is too far; only then the first one is, too.
        House h = new House();
        h.flow(1, 0, 0);
        h.flow(1, 1, 0);
        h.nops(12);
        fill(h, 112);
        h.flow(0, 0, 0);
        fill(h, 16);
        h.flow(0, 1, 0);
        h.build();
        DUE.is("the second one", h.decoded(5, 0), 5);
        DUE.is("the first one", h.decoded(0, 0), 5);
        DUE.is("I of the first one", h.decoded(0, 6), h.place(1, 0) - 5);
        // A chain of them: each one is too far only when the next one is LONG.
        for (int links = 1; links <= 6; links++) {
            House chain = new House();
            for (int k = 0; k < links; k++) {
                chain.flow(1, k, 0);
                chain.nops(14);
            }
            int items = 15 * links;
            for (int k = 0; k < links; k++) {
                fill(chain, k == 0 ? 128 - 16 * (links - 1) : 16);
                chain.flow(0, k, 0);
            }
            DUE.is("build", chain.build(), 0);
            boolean fits = true;
            for (int k = 0; k < links; k++) {
                int at = chain.place(0, 15 * k);
                int length = chain.decoded(at, 0);
                fits &= chain.decoded(at, 6) == chain.place(1, k) - at - length;
                fits &= length == 5 || chain.place(1, k) - at - 2 <= 127;
            }
            DUE.is(links + " links, " + items + " ITEMS: each I is right", fits, true);
        }
    }

    private static void staysLong() {
        DUE.sentence("IV", "those whose I is not -128 .. 127 become LONG, all is laid anew, and so on till there is none");
        // SHORT at 12, to 144: I is 130. LONG it is laid at 16, and would be in reach, but nothing makes it SHORT again.
        for (int sort = 1; sort <= 2; sort++) {
            House h = new House();
            h.nops(12);
            h.flow(sort, 0, 4);
            for (int k = 0; k < 8; k++) {
                h.flow(4, 0, 0);
            }
            h.flow(0, 0, 0);
            h.build();
            int length = sort == 1 ? 5 : 6;
            DUE.is("the LABEL", h.place(1, 0), 144);
            DUE.is("laid at the next BUNDLE", h.place(0, 12), 16);
            DUE.is("LONG", h.decoded(16, 0), length);
            DUE.is("I", h.decoded(16, 6), 144 - 16 - length);
        }
    }

    private static void allAtOnce() {
        DUE.sentence("IV", "those whose I is not -128 .. 127 become LONG, all is laid anew");
        // Both are too far at first; were the first one LONG alone, the second one would be in reach at 16.
        House h = new House();
        h.nops(10);
        h.flow(1, 1, 0);
        h.flow(1, 0, 0);
        for (int k = 0; k < 8; k++) {
            h.flow(4, 0, 0);
        }
        h.flow(0, 0, 0);
        h.flow(4, 0, 0);
        h.flow(0, 1, 0);
        h.build();
        DUE.is("the first one", h.decoded(10, 0), 5);
        DUE.is("its I", h.decoded(10, 6), 160 - 15);
        DUE.is("the second one", h.place(0, 11), 16);
        DUE.is("LONG, too", h.decoded(16, 0), 5);
        DUE.is("its I", h.decoded(16, 6), 144 - 21);
    }

    private static void longsMakeItTooMany() {
        DUE.sentence("IV", "4 (at NONE) THE CODE would have more than 1024 BYTES");
        for (int more = 0; more <= 1; more++) {
            // JUMP back to 0: two BYTES at first, five then.
            House h = drafting(f(0, 0, 0));
            for (int k = 0; k < 63; k++) {
                h.flow(4, 0, 0);
            }
            h.nops(10 + more);
            h.flow(1, 0, 0);
            fault("with " + more + " more", more == 0 ? 0 : 4, -1, h);
        }
    }

    private static void makes(int[] bytes, int op, int form, int r, int x, int d, int i) {
        House h = new House();
        h.plain(op, form, r, x, d, i);
        h.build();
        String what = "OP " + op + " FORM " + form + " of " + r + ", " + x + ", " + d + ", " + i;
        for (int k = 0; k < 16; k++) {
            DUE.is(what + ": BYTE " + k, h.code(k), k < bytes.length ? bytes[k] : 244);
        }
        DUE.is(what + ": size", h.size(), 16);
    }

    private static int[] b(int... bytes) {
        return bytes;
    }

    private static int[] four(int[] lead, int n) {
        int[] bytes = java.util.Arrays.copyOf(lead, lead.length + 4);
        for (int k = 0; k < 4; k++) {
            bytes[lead.length + k] = n >> 8 * k & 255;
        }
        return bytes;
    }

    private static void numbersOfOneByte() {
        DUE.sentence("IV", "FORM 5, 6: OPS 0 to 7 with I1, if I is -128 .. 127 .. PUSH I with I1 likewise");
        for (int i : new int[] {-129, -128, -127, -1, 0, 1, 126, 127, 128, 255, 256, MIN, MAX}) {
            boolean one = i >= -128 && i <= 127;
            for (int g = 0; g < 8; g++) {
                makes(one ? b(131, 192 + 8 * g + 5, i & 255) : four(b(129, 192 + 8 * g + 5), i), g, 5, 5, 0, 0, i);
                makes(one ? b(131, 8 * g + 6, i & 255) : four(b(129, 8 * g + 6), i), g, 6, 0, 6 + 128, 0, i);
            }
            makes(one ? b(106, i & 255) : four(b(104), i), 19, 8, 0, 0, 0, i);
            DUE.sentence("IV", "MOV of FORM 5 with 184 + R");
            makes(four(b(189), i), 8, 5, 5, 0, 0, i);
            makes(four(b(199, 6), i), 8, 6, 0, 6 + 128, 0, i);
        }
        DUE.sentence("Terms", "193, /4, /5 or /7, I1 (0 .. 255)");
        for (int i : new int[] {0, 31, 127, 128, 255}) {
            for (int op = 14; op <= 16; op++) {
                int k = op == 16 ? 7 : op - 10;
                makes(b(193, 192 + 8 * k + 5, i), op, 5, 5, 0, 0, i);
                makes(b(193, 8 * k + 6, i), op, 6, 0, 6 + 128, 0, i);
            }
        }
    }

    private static void formTwo() {
        DUE.sentence("IV", "BYTES of an INSTRUCTION: of FORM 2 the first way told above");
        for (int r = 0; r < 8; r++) {
            for (int x = 0; x < 8; x++) {
                for (int g = 0; g < 8; g++) {
                    makes(b(1 + 8 * g, 192 + 8 * x + r), g, 2, r, x, 0, 0);
                }
                makes(b(137, 192 + 8 * x + r), 8, 2, r, x, 0, 0);
                makes(b(133, 192 + 8 * x + r), 9, 2, r, x, 0, 0);
                makes(b(15, 175, 192 + 8 * r + x), 11, 2, r, x, 0, 0);
            }
        }
    }

    /** By LEA 0, whose BYTES are 141 and the MEMORY'S alone. */
    private static void loads(int x, int d, int... operand) {
        int[] bytes = new int[operand.length + 1];
        bytes[0] = 141;
        System.arraycopy(operand, 0, bytes, 1, operand.length);
        makes(bytes, 10, 3, 0, x, d, 0);
    }

    private static void loadsFour(int x, int d, int... operand) {
        loads(x, d, four(operand, d));
    }

    private static void memoryBytes() {
        int[] ds = {0, 1, -1, 127, 128, -128, -129, 256, MIN, MAX};
        for (int d : ds) {
            boolean one = d >= -128 && d <= 127;
            DUE.sentence("IV", "MEMORY without base and index: m 0, e 5");
            loadsFour(NO + 16 * NO, d, 5);
            for (int base = 0; base < 8; base++) {
                if (base != 4) {
                    DUE.sentence("IV", "e the base; m 0 if D is 0 and the base not 5, m 1 if D is -128 .. 127, else m 2");
                    operand(base + 16 * NO, d, base, one, b(base));
                } else {
                    DUE.sentence("IV", "With base, 4, or an index, too: e 4, m likewise .. No index: J 4, K 0");
                    operand(4 + 16 * NO, d, 4, one, b(4, 8 * 4 + 4));
                }
                DUE.sentence("IV", "With base, 4, or an index, too: e 4, m likewise");
                for (int index = 0; index < 8; index++) {
                    for (int k = 0; index != 4 && k < 4; k++) {
                        operand(base + 16 * index + 256 * k, d, base, one, b(4, 64 * k + 8 * index + base));
                    }
                }
            }
            DUE.sentence("IV", "Without base: e 4, m 0, B 5");
            for (int index = 0; index < 8; index++) {
                for (int k = 0; index != 4 && k < 4; k++) {
                    loadsFour(NO + 16 * index + 256 * k, d, 4, 64 * k + 8 * index + 5);
                }
            }
        }
    }

    private static void operand(int x, int d, int base, boolean one, int[] told) {
        if (d == 0 && base != 5) {
            loads(x, d, told);
        } else if (one) {
            int[] bytes = java.util.Arrays.copyOf(told, told.length + 1);
            bytes[0] += 64;
            bytes[told.length] = d & 255;
            loads(x, d, bytes);
        } else {
            told[0] += 128;
            loadsFour(x, d, told);
        }
    }
}
