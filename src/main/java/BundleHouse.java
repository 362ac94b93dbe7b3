import java.util.NoSuchElementException;

/**
 * A house for code that can't leave its box. The words in capitals are those of the document
 * (shared/DOC.md), which numbers the promises that this class keeps.
 */
public final class BundleHouse {
    public static final int NONE = -1;

    private static final int ADD = 0;
    private static final int OR = 1;
    private static final int ADC = 2;
    private static final int SBB = 3;
    private static final int AND = 4;
    private static final int SUB = 5;
    private static final int XOR = 6;
    private static final int CMP = 7;
    private static final int MOV = 8;
    private static final int TEST = 9;
    private static final int LEA = 10;
    private static final int IMUL = 11;
    private static final int NOT = 12;
    private static final int NEG = 13;
    private static final int SHL = 14;
    private static final int SHR = 15;
    private static final int SAR = 16;
    private static final int INC = 17;
    private static final int DEC = 18;
    private static final int PUSH = 19;
    private static final int POP = 20;
    private static final int NOP = 21;
    private static final int HALT = 22;
    private static final int RET = 23;
    private static final int JUMP = 24;
    private static final int BRANCH = 25;
    private static final int CALL = 26;
    private static final int GO = 27;
    private static final int GOSUB = 28;

    private static final int ITEM_LABEL = 0;
    private static final int ITEM_JUMP = 1;
    private static final int ITEM_BRANCH = 2;
    private static final int ITEM_CALL = 3;
    private static final int ITEM_SERVICE = 4;
    private static final int ITEM_GO = 5;
    private static final int ITEM_GOSUB = 6;
    private static final int ITEM_RETURN = 7;
    private static final int ITEM_ADDRESS = 8;
    private static final int ITEM_PLAIN = 9;

    /** Not a STOP: the STEP was done, and the next one comes. */
    private static final int GOES = -1;
    private static final int STOP_FUEL = 0;
    private static final int STOP_HALT = 1;
    private static final int STOP_EXIT = 2;
    private static final int STOP_DATA = 3;
    private static final int STOP_WILD = 4;
    private static final int STOP_BAD = 5;
    private static final int STOP_FULL = 6;
    private static final int STOP_UNKNOWN = 7;
    private static final int STOP_LOST = 9;

    private static final int BUNDLE = 16;
    private static final int TAPE_MOST = 1100;
    private static final int FEED_BYTES = 20;
    private static final int CODE_MOST = 1024;
    private static final int CODE_AT = 256;
    private static final int BUNDLES_MOST = CODE_MOST / BUNDLE;
    private static final int DATA_MOST = 1024;
    private static final int LAST_WORD = DATA_MOST - 4;
    private static final int REGISTERS = 8;
    private static final int STACK = 4;
    private static final int NO_REGISTER = 8;
    private static final int ITEMS_MOST = 120;
    private static final int LABELS = 40;
    private static final int INPUT_MOST = 50;
    private static final int OUTPUT_MOST = 100;
    private static final int FUEL_MOST = 5000;

    private static final int SERVICE_EXIT = 0;
    private static final int SERVICE_OUT = 16;
    private static final int SERVICE_IN = 32;
    private static final int SERVICE_COUNT = 48;

    private static final int BYTE_NOP = 144;
    private static final int BYTE_HALT = 244;
    /** CALL, and a PAIR: the pieces that may be LAST. */
    private static final int LAST_LENGTH = 5;
    private static final int SHORT_LENGTH = 2;

    private static final int NO_START = 0;
    private static final int START = 1;
    private static final int START_IN_PAIR = 2;

    private static final int UNKNOWN_FLAG = 2;

    /** For each OP that plain() takes, the FORMS it has: bit f is FORM f. */
    private static final int[] FORMS = {
        124, 124, 124, 124, 124, 124, 124, 124, 124, 20, 8, 12, 130, 130, 96, 96, 96, 2, 2, 258, 2, 1, 1
    };

    private final Strip tape = new Strip();
    private final Policy tapePolicy = new Policy(tape);
    private final Strip theCode = new Strip();
    private final Policy codePolicy = new Policy(theCode);
    private final Reader codeReader = new Reader(theCode);
    private final Program draft = new Program();
    private final Builder builder = new Builder(draft, theCode);
    private final Program program = new Program();
    private final Machine first = new Machine();
    private final Machine runMachine = new Machine();
    private final Machine walkMachine = new Machine();
    private final Runner runner = new Runner(theCode, codeReader, runMachine);
    private final Walker walker = new Walker(program, walkMachine);
    private boolean hasProgram;
    private int latestFault;
    private int latestPlace = NONE;

    public BundleHouse() {
    }

    public boolean feed(int a, int b, int c, int d, int e) {
        if (tape.count > TAPE_MOST - FEED_BYTES) {
            return false;
        }
        tape.addFour(a);
        tape.addFour(b);
        tape.addFour(c);
        tape.addFour(d);
        tape.addFour(e);
        return true;
    }

    public boolean end(int n) {
        if (n < 0 || n > tape.count) {
            return false;
        }
        tape.count = n;
        return true;
    }

    public int check() {
        latestFault = tapePolicy.findFault();
        latestPlace = tapePolicy.faultPlace;
        if (latestFault == 0) {
            theCode.copyFrom(tape);
            hasProgram = false;
            forgetRuns();
        }
        tape.count = 0;
        return latestFault;
    }

    public int fault(int what) {
        if (what == 0) {
            return latestFault;
        }
        return what == 1 ? latestPlace : NONE;
    }

    public int plain(int op, int form, int r, int x, int d, int i) {
        if (draft.isFull() || !isPlain(op, form, r, x, i)) {
            return NONE;
        }
        draft.addPlain(op, form, r, x, d, i);
        return draft.count;
    }

    public int flow(int sort, int a, int b) {
        if (draft.isFull() || !isFlow(sort, a, b)) {
            return NONE;
        }
        draft.addFlow(sort, a, b);
        return draft.count;
    }

    public int clear() {
        int had = draft.count;
        draft.count = 0;
        return had;
    }

    public int build() {
        latestFault = builder.findFault();
        latestPlace = builder.faultItem;
        if (latestFault == 0) {
            builder.writeCode();
            // What is built keeps the POLICY: this tells the STARTS.
            codePolicy.findFault();
            program.copyFrom(draft);
            hasProgram = true;
            forgetRuns();
        }
        return latestFault;
    }

    public int size() {
        return theCode.count;
    }

    public int code(int i) {
        return theCode.byteAt(i);
    }

    public int decoded(int place, int what) throws NoSuchElementException {
        if (what < 0 || what > 7) {
            throw new NoSuchElementException("no such what");
        }
        if (!codeReader.read(place)) {
            throw new NoSuchElementException("no INSTRUCTION there");
        }
        return what == 7 ? theCode.markAt(place) : codeReader.found.part(what);
    }

    public int place(int sort, int k) {
        if (!hasProgram) {
            return NONE;
        }
        switch (sort) {
            case 0:
                return program.itemPlace(k);
            case 1:
                return program.itemPlace(program.labelItem(k));
            case 2:
                return program.count;
            default:
                return NONE;
        }
    }

    public boolean set(int sort, int k, int v) {
        switch (sort) {
            case 0:
                if (!isRegister(k)) {
                    return false;
                }
                first.give(k, v);
                return true;
            case 1:
                if (!isWord(k)) {
                    return false;
                }
                first.giveWord(k, v);
                return true;
            case 2:
                return first.addInput(v);
            case 3:
                first.forget();
                return true;
            default:
                return false;
        }
    }

    public int run(int fuel) throws IllegalStateException, IllegalArgumentException {
        if (theCode.count == 0) {
            throw new IllegalStateException("there is no CODE");
        }
        if (fuel < 1 || fuel > FUEL_MOST) {
            throw new IllegalArgumentException("fuel is not 1 .. 5000");
        }
        runMachine.beginAs(first);
        return runner.goOn(fuel);
    }

    public int walk(int fuel) throws IllegalStateException, IllegalArgumentException {
        if (!hasProgram) {
            throw new IllegalStateException("there is no PROGRAM");
        }
        if (fuel < 1 || fuel > FUEL_MOST) {
            throw new IllegalArgumentException("fuel is not 1 .. 5000");
        }
        walkMachine.beginAs(first);
        return walker.goOn(fuel);
    }

    public int state(boolean walk, int what) throws NoSuchElementException {
        Machine machine = walk ? walkMachine : runMachine;
        if (!machine.hasRun || what < 0 || what > 17) {
            throw new NoSuchElementException("no such RUN, WALK or what");
        }
        return machine.part(what);
    }

    public int data(boolean walk, int a) {
        Machine machine = walk ? walkMachine : runMachine;
        return machine.hasRun ? machine.byteAt(a) : NONE;
    }

    public int output(boolean walk, int i) throws NoSuchElementException {
        Machine machine = walk ? walkMachine : runMachine;
        if (!machine.hasRun || !machine.hasOutput(i)) {
            throw new NoSuchElementException("no such number");
        }
        return machine.outputAt(i);
    }

    /** A RUN or WALK is told of only as long as its CODE is THE CODE. */
    private void forgetRuns() {
        runMachine.hasRun = false;
        walkMachine.hasRun = false;
    }

    private static boolean isPlain(int op, int form, int r, int x, int i) {
        if (op < 0 || op >= FORMS.length || form < 0 || form > 8 || (FORMS[op] >> form & 1) == 0) {
            return false;
        }
        if (form >= 1 && form <= 5 && !isRegister(r)) {
            return false;
        }
        if (form == 2 && !isRegister(x)) {
            return false;
        }
        if (isMemoryForm(form) && !isMemory(x)) {
            return false;
        }
        return !isShift(op) || i >= 0 && i <= 255;
    }

    private static boolean isFlow(int sort, int a, int b) {
        switch (sort) {
            case ITEM_LABEL:
                return isLabel(a) && (b == 0 || b == 1);
            case ITEM_JUMP:
            case ITEM_CALL:
                return isLabel(a);
            case ITEM_BRANCH:
                return isLabel(a) && isCondition(b);
            case ITEM_SERVICE:
                return a >= 0 && a <= 3;
            case ITEM_GO:
            case ITEM_GOSUB:
                return isRegister(a) && a != STACK;
            case ITEM_RETURN:
                return true;
            case ITEM_ADDRESS:
                return isLabel(a) && isRegister(b);
            default:
                return false;
        }
    }

    private static boolean isRegister(int k) {
        return k >= 0 && k < REGISTERS;
    }

    private static boolean isLabel(int k) {
        return k >= 0 && k < LABELS;
    }

    private static boolean isCondition(int c) {
        return c >= 0 && c <= 15 && c != 10 && c != 11;
    }

    private static boolean isShift(int op) {
        return op >= SHL && op <= SAR;
    }

    private static boolean isMemoryForm(int form) {
        return form == 3 || form == 4 || form == 6 || form == 7;
    }

    /** Whether X tells a base, an index and how far that is shifted. */
    private static boolean isMemory(int x) {
        int base = x & 15;
        int index = x >> 4 & 15;
        int scale = x >> 8;
        if (scale < 0 || scale > 3 || base > NO_REGISTER || index > NO_REGISTER || index == STACK) {
            return false;
        }
        return index != NO_REGISTER || scale == 0;
    }

    private static boolean isWord(int a) {
        return a >= 0 && a <= LAST_WORD;
    }

    private static boolean isService(int address) {
        return address >= SERVICE_EXIT && address <= SERVICE_COUNT && address % BUNDLE == 0;
    }

    private static boolean isSmall(int i) {
        return i >= -128 && i <= 127;
    }

    /** BYTES one behind the other, with what each one is to the POLICY: the TAPE, or THE CODE. */
    private static final class Strip {
        final int[] row = new int[TAPE_MOST];
        private final int[] marks = new int[TAPE_MOST];
        int count;

        void addFour(int number) {
            for (int shift = 24; shift >= 0; shift -= 8) {
                if (count < TAPE_MOST) {
                    row[count] = number >>> shift & 255;
                    count++;
                }
            }
        }

        int byteAt(int i) {
            return i < 0 || i >= count ? NONE : row[i];
        }

        void putPiece(int place, Piece piece) {
            for (int k = 0; k < piece.count; k++) {
                if (place + k >= 0 && place + k < TAPE_MOST) {
                    row[place + k] = piece.row[k];
                }
            }
        }

        /** NOPS, with HALTS from the tail on: the pieces are put over them. */
        void becomeFilling(int size, int tail) {
            count = Math.max(0, Math.min(size, TAPE_MOST));
            for (int k = 0; k < count; k++) {
                row[k] = k < tail ? BYTE_NOP : BYTE_HALT;
            }
        }

        int markAt(int place) {
            return place < 0 || place >= count ? NO_START : marks[place];
        }

        void mark(int place, int sort) {
            if (place >= 0 && place < TAPE_MOST) {
                marks[place] = sort;
            }
        }

        void dropMarks() {
            for (int k = 0; k < TAPE_MOST; k++) {
                marks[k] = NO_START;
            }
        }

        void copyFrom(Strip other) {
            System.arraycopy(other.row, 0, row, 0, TAPE_MOST);
            System.arraycopy(other.marks, 0, marks, 0, TAPE_MOST);
            count = other.count;
        }
    }

    /** An INSTRUCTION taken apart; one object is filled again and again. */
    private static final class Instruction {
        int op;
        int form;
        int r;
        int x;
        int d;
        int i;
        int length;

        void fill(int newOp, int newForm, int newR, int newX, int newD, int newI) {
            op = newOp;
            form = newForm;
            r = newR;
            x = newX;
            d = newD;
            i = newI;
        }

        int base() {
            return x & 15;
        }

        int index() {
            return x >> 4 & 15;
        }

        int scale() {
            return x >> 8 & 3;
        }

        int part(int what) {
            switch (what) {
                case 0:
                    return length;
                case 1:
                    return op;
                case 2:
                    return form;
                case 3:
                    return r;
                case 4:
                    return x;
                case 5:
                    return d;
                default:
                    return i;
            }
        }
    }

    /** Takes the INSTRUCTION at a place of a Strip apart. */
    private static final class Reader {
        /** What /r or /k is: none, or R and X as 1 + 8 * g has them, as 3 + 8 * g, or a k that tells the OP. */
        private static final int NO_OPERAND = 0;
        private static final int STORE = 1;
        private static final int LOAD = 2;
        private static final int GROUP = 3;

        /** How I and D are told, beside none (0): I1, I4, and I1 as a number 0 .. 255. */
        private static final int ONE = 1;
        private static final int FOUR = 4;
        private static final int ONE_UNSIGNED = 2;

        final Instruction found = new Instruction();
        private final Strip source;
        private int next;
        private boolean good;
        private int operandSort;
        private int valueSize;
        private int distanceSize;
        private boolean inRegister;
        private int middle;
        private int low;

        Reader(Strip strip) {
            source = strip;
        }

        /** False if there is no INSTRUCTION, or one that goes beyond the end: no one asks which. */
        boolean read(int place) {
            next = place;
            good = true;
            operandSort = NO_OPERAND;
            valueSize = 0;
            found.fill(0, 0, 0, 0, 0, 0);
            int lead = take();
            if (lead == 15) {
                shapeBehind15(take());
            } else {
                shape(lead);
            }
            if (operandSort != NO_OPERAND) {
                takeOperand();
                giveForm(lead);
                found.d = takeNumber(distanceSize);
            }
            found.i = takeNumber(valueSize);
            found.length = next - place;
            return good;
        }

        private int take() {
            int at = next;
            next++;
            if (at < 0 || at >= source.count) {
                good = false;
                return 0;
            }
            return source.row[at];
        }

        private int takeNumber(int size) {
            if (size == 0) {
                return 0;
            }
            int number = take();
            if (size == ONE) {
                return (byte) number;
            }
            if (size == FOUR) {
                number |= take() << 8;
                number |= take() << 16;
                number |= take() << 24;
            }
            return number;
        }

        private void expect(int op, int form, int r, int size) {
            found.op = op;
            found.form = form;
            found.r = r;
            valueSize = size;
        }

        private void expectOperand(int sort, int op, int size) {
            operandSort = sort;
            found.op = op;
            valueSize = size;
        }

        private void expectBranch(int condition, int size) {
            good = good && isCondition(condition);
            expect(BRANCH, 8, condition, size);
        }

        private void shape(int lead) {
            if (lead < 64) {
                shapeArithmetic(lead);
            } else if (lead < 96) {
                expect(INC + (lead - 64) / 8, 1, lead & 7, 0);
            } else if (lead >= 112 && lead < 128) {
                expectBranch(lead - 112, ONE);
            } else if (lead >= 184 && lead < 192) {
                expect(MOV, 5, lead - 184, FOUR);
            } else {
                shapeOther(lead);
            }
        }

        private void shapeArithmetic(int lead) {
            if ((lead & 7) == 1) {
                expectOperand(STORE, lead >> 3, 0);
            } else if ((lead & 7) == 3) {
                expectOperand(LOAD, lead >> 3, 0);
            } else {
                good = false;
            }
        }

        private void shapeBehind15(int second) {
            if (second == 175) {
                expectOperand(LOAD, IMUL, 0);
            } else if (second >= 128 && second < 144) {
                expectBranch(second - 128, FOUR);
            } else {
                good = false;
            }
        }

        private void shapeOther(int lead) {
            switch (lead) {
                case 104: expect(PUSH, 8, 0, FOUR); break;
                case 106: expect(PUSH, 8, 0, ONE); break;
                case 129: expectOperand(GROUP, ADD, FOUR); break;
                case 131: expectOperand(GROUP, ADD, ONE); break;
                case 133: expectOperand(STORE, TEST, 0); break;
                case 137: expectOperand(STORE, MOV, 0); break;
                case 139: expectOperand(LOAD, MOV, 0); break;
                case 141: expectOperand(LOAD, LEA, 0); break;
                case BYTE_NOP: expect(NOP, 0, 0, 0); break;
                case 193: expectOperand(GROUP, SHL, ONE_UNSIGNED); break;
                case 195: expect(RET, 0, 0, 0); break;
                case 199: expectOperand(GROUP, MOV, FOUR); break;
                case 232: expect(CALL, 8, 0, FOUR); break;
                case 233: expect(JUMP, 8, 0, FOUR); break;
                case 235: expect(JUMP, 8, 0, ONE); break;
                case BYTE_HALT: expect(HALT, 0, 0, 0); break;
                case 247: expectOperand(GROUP, NOT, 0); break;
                case 255: expectOperand(GROUP, GO, 0); break;
                default: good = false; break;
            }
        }

        private void takeOperand() {
            int told = take();
            int mode = told >> 6;
            middle = told >> 3 & 7;
            low = told & 7;
            inRegister = mode == 3;
            distanceSize = 0;
            if (inRegister) {
                return;
            }
            int base = low;
            int index = NO_REGISTER;
            int scale = 0;
            if (low == 4) {
                int more = take();
                base = more & 7;
                if ((more >> 3 & 7) != 4) {
                    index = more >> 3 & 7;
                    scale = more >> 6;
                }
            }
            boolean noBase = mode == 0 && base == 5;
            found.x = (noBase ? NO_REGISTER : base) + 16 * index + 256 * scale;
            if (mode != 0 || noBase) {
                distanceSize = mode == 1 ? ONE : FOUR;
            }
        }

        private void giveForm(int lead) {
            if (operandSort == STORE) {
                found.form = inRegister ? 2 : 4;
                found.r = inRegister ? low : middle;
                found.x = inRegister ? middle : found.x;
            } else if (operandSort == LOAD) {
                good = good && !(inRegister && found.op == LEA);
                found.form = inRegister ? 2 : 3;
                found.r = middle;
                found.x = inRegister ? low : found.x;
            } else {
                found.op = groupOp(lead);
                good = good && found.op != NONE;
                int wordForm = valueSize == 0 ? 7 : 6;
                int registerForm = valueSize == 0 ? 1 : 5;
                found.form = inRegister ? registerForm : wordForm;
                found.r = inRegister ? low : 0;
            }
        }

        private int groupOp(int lead) {
            switch (lead) {
                case 193:
                    if (middle == 4 || middle == 5) {
                        return SHL + middle - 4;
                    }
                    return middle == 7 ? SAR : NONE;
                case 199:
                    return middle == 0 ? MOV : NONE;
                case 247:
                    return middle == 2 || middle == 3 ? NOT + middle - 2 : NONE;
                case 255:
                    if (!inRegister) {
                        return NONE;
                    }
                    return middle == 4 ? GO : middle == 2 ? GOSUB : NONE;
                default:
                    return middle;
            }
        }
    }

    /** Holds a Strip against THE POLICY, and marks its STARTS. */
    private static final class Policy {
        int faultPlace = NONE;
        private final Strip strip;
        private final Reader reader;

        Policy(Strip held) {
            strip = held;
            reader = new Reader(held);
        }

        int findFault() {
            int n = strip.count;
            faultPlace = NONE;
            if (n < BUNDLE || n > CODE_MOST || n % BUNDLE != 0) {
                faultPlace = n;
                return 1;
            }
            strip.dropMarks();
            for (int begin = 0; begin < n; begin += BUNDLE) {
                int fault = bundleFault(begin);
                if (fault != 0) {
                    return fault;
                }
            }
            return targetFault();
        }

        private int bundleFault(int begin) {
            int at = begin;
            int masked = NONE;
            for (int turn = 0; turn < BUNDLE && at < begin + BUNDLE; turn++) {
                int fault = reader.read(at) ? faultOfFound(at, begin + BUNDLE, masked) : 2;
                if (fault != 0) {
                    faultPlace = at;
                    return fault;
                }
                boolean inPair = reader.found.op == GO || reader.found.op == GOSUB;
                strip.mark(at, inPair ? START_IN_PAIR : START);
                masked = maskedRegister(at);
                at += reader.found.length;
            }
            return 0;
        }

        private int faultOfFound(int at, int bundleEnd, int masked) {
            int op = reader.found.op;
            if (op == RET) {
                return 2;
            }
            int behind = at + reader.found.length;
            if (behind > bundleEnd) {
                return 3;
            }
            if ((op == GO || op == GOSUB) && masked != reader.found.r) {
                return 4;
            }
            return (op == CALL || op == GOSUB) && behind != bundleEnd ? 5 : 0;
        }

        /** The register that a GO right behind may have; the other way to tell this AND (129) is none for a PAIR. */
        private int maskedRegister(int at) {
            Instruction ahead = reader.found;
            boolean masks = strip.byteAt(at) == 131 && ahead.op == AND && ahead.form == 5 && ahead.i == -BUNDLE;
            return masks ? ahead.r : NONE;
        }

        private int targetFault() {
            for (int at = 0; at < strip.count; at++) {
                if (strip.markAt(at) != NO_START && reader.read(at) && isAstray(at)) {
                    faultPlace = at;
                    return 6;
                }
            }
            return 0;
        }

        private boolean isAstray(int at) {
            int op = reader.found.op;
            if (op != JUMP && op != BRANCH && op != CALL) {
                return false;
            }
            int target = CODE_AT + at + reader.found.length + reader.found.i;
            return !isService(target) && strip.markAt(target - CODE_AT) != START;
        }
    }

    /** ITEMS and where they are laid: THE DRAFT, or THE PROGRAM that it was when it was built. */
    private static final class Program {
        /** Where a WALK can't go on; SERVICES are NONE and below it, ITEMS 0 and above. */
        static final int NOWHERE = -100;

        final int[] sort = new int[ITEMS_MOST];
        final int[] a = new int[ITEMS_MOST];
        final int[] b = new int[ITEMS_MOST];
        final int[] placeRow = new int[ITEMS_MOST];
        int count;
        int tail;
        private final int[] op = new int[ITEMS_MOST];
        private final int[] form = new int[ITEMS_MOST];
        private final int[] r = new int[ITEMS_MOST];
        private final int[] x = new int[ITEMS_MOST];
        private final int[] d = new int[ITEMS_MOST];
        private final int[] i = new int[ITEMS_MOST];
        private final int[] labelRow = new int[LABELS];
        private final int[] landingRow = new int[BUNDLES_MOST];

        boolean isFull() {
            return count >= ITEMS_MOST;
        }

        void addPlain(int newOp, int newForm, int newR, int newX, int newD, int newI) {
            if (isFull()) {
                return;
            }
            sort[count] = ITEM_PLAIN;
            op[count] = newOp;
            form[count] = newForm;
            r[count] = newR;
            x[count] = newX;
            d[count] = newD;
            i[count] = newI;
            count++;
        }

        void addFlow(int newSort, int newA, int newB) {
            if (isFull()) {
                return;
            }
            sort[count] = newSort;
            a[count] = newA;
            b[count] = newB;
            count++;
        }

        void copyFrom(Program other) {
            System.arraycopy(other.sort, 0, sort, 0, ITEMS_MOST);
            System.arraycopy(other.a, 0, a, 0, ITEMS_MOST);
            System.arraycopy(other.b, 0, b, 0, ITEMS_MOST);
            System.arraycopy(other.op, 0, op, 0, ITEMS_MOST);
            System.arraycopy(other.form, 0, form, 0, ITEMS_MOST);
            System.arraycopy(other.r, 0, r, 0, ITEMS_MOST);
            System.arraycopy(other.x, 0, x, 0, ITEMS_MOST);
            System.arraycopy(other.d, 0, d, 0, ITEMS_MOST);
            System.arraycopy(other.i, 0, i, 0, ITEMS_MOST);
            System.arraycopy(other.placeRow, 0, placeRow, 0, ITEMS_MOST);
            System.arraycopy(other.labelRow, 0, labelRow, 0, LABELS);
            System.arraycopy(other.landingRow, 0, landingRow, 0, BUNDLES_MOST);
            count = other.count;
            tail = other.tail;
        }

        boolean hasItem(int k) {
            return k >= 0 && k < count && k < ITEMS_MOST;
        }

        void loadItem(int k, Instruction into) {
            if (hasItem(k)) {
                into.fill(op[k], form[k], r[k], x[k], d[k], i[k]);
            }
        }

        int itemPlace(int k) {
            return hasItem(k) ? placeRow[k] : NONE;
        }

        int labelItem(int label) {
            return isLabel(label) ? labelRow[label] : NONE;
        }

        boolean isMarked(int k) {
            return hasItem(k) && sort[k] == ITEM_LABEL && b[k] == 1;
        }

        boolean pushes(int k) {
            return hasItem(k) && (sort[k] == ITEM_CALL || sort[k] == ITEM_SERVICE || sort[k] == ITEM_GOSUB);
        }

        /** Of a LABEL that is told twice the first one counts: the second one is the FAULT. */
        void findLabels() {
            for (int label = 0; label < LABELS; label++) {
                labelRow[label] = NONE;
            }
            for (int k = 0; k < count; k++) {
                if (hasItem(k) && sort[k] == ITEM_LABEL && isLabel(a[k]) && labelRow[a[k]] == NONE) {
                    labelRow[a[k]] = k;
                }
            }
        }

        /** All that a WALK may go to by an address is at a BUNDLE'S beginning, so a row of BUNDLES tells it. */
        void findLandings() {
            for (int bundle = 0; bundle < BUNDLES_MOST; bundle++) {
                landingRow[bundle] = NOWHERE;
            }
            for (int k = 0; k < count; k++) {
                if (isMarked(k)) {
                    giveLanding(itemPlace(k), k);
                } else if (pushes(k)) {
                    giveLanding(itemPlace(k) + LAST_LENGTH, k + 1);
                }
            }
        }

        private void giveLanding(int place, int item) {
            int bundle = place / BUNDLE;
            if (bundle >= 0 && bundle < BUNDLES_MOST) {
                landingRow[bundle] = item;
            }
        }

        int landingAt(int address) {
            if (isService(address)) {
                return NONE - address / BUNDLE;
            }
            int bundle = (address - CODE_AT) / BUNDLE;
            if (address < CODE_AT || address % BUNDLE != 0 || bundle < 0 || bundle >= BUNDLES_MOST) {
                return NOWHERE;
            }
            return landingRow[bundle];
        }

        /** The first ITEM from k on that is no LABEL. */
        int pastLabels(int k) {
            int item = Math.max(k, 0);
            while (item < count && item < ITEMS_MOST && sort[item] == ITEM_LABEL) {
                item++;
            }
            return item;
        }

        int addressOf(int item) {
            if (item < 0) {
                return (NONE - item) * BUNDLE;
            }
            return CODE_AT + (hasItem(item) ? placeRow[item] : tail);
        }
    }

    /** The BYTES of one piece. */
    private static final class Piece {
        private static final int LONGEST = 16;

        final int[] row = new int[LONGEST];
        int count;

        void put(int number) {
            if (count < LONGEST) {
                row[count] = number & 255;
                count++;
            }
        }

        void putFour(int number) {
            put(number);
            put(number >> 8);
            put(number >> 16);
            put(number >> 24);
        }

        void become(Instruction t) {
            count = 0;
            putLead(t);
            if (hasOperand(t)) {
                putOperand(t);
            }
            putValue(t);
        }

        void becomeRegisterOp(int lead, int r) {
            count = 0;
            put(lead + r);
        }

        void becomePair(int r, boolean pushes) {
            count = 0;
            put(131);
            put(224 + r);
            put(-BUNDLE);
            put(255);
            put((pushes ? 208 : 224) + r);
        }

        void becomeWithFour(int lead, int number) {
            count = 0;
            put(lead);
            putFour(number);
        }

        void becomeShort(int lead, int number) {
            count = 0;
            put(lead);
            put(number);
        }

        void becomeLongBranch(int condition, int number) {
            count = 0;
            put(15);
            put(128 + condition);
            putFour(number);
        }

        private void putLead(Instruction t) {
            switch (t.op) {
                case MOV:
                    putMovLead(t);
                    break;
                case TEST:
                    put(133);
                    break;
                case LEA:
                    put(141);
                    break;
                case IMUL:
                    put(15);
                    put(175);
                    break;
                case NOT:
                case NEG:
                    put(247);
                    break;
                case SHL:
                case SHR:
                case SAR:
                    put(193);
                    break;
                case INC:
                case DEC:
                case POP:
                    put(64 + 8 * (t.op - INC) + t.r);
                    break;
                case PUSH:
                    put(t.form == 1 ? 80 + t.r : isSmall(t.i) ? 106 : 104);
                    break;
                case NOP:
                    put(BYTE_NOP);
                    break;
                case HALT:
                    put(BYTE_HALT);
                    break;
                default:
                    putArithmeticLead(t);
                    break;
            }
        }

        private void putArithmeticLead(Instruction t) {
            if (t.form == 5 || t.form == 6) {
                put(isSmall(t.i) ? 131 : 129);
            } else {
                put(8 * t.op + (t.form == 3 ? 3 : 1));
            }
        }

        private void putMovLead(Instruction t) {
            if (t.form == 5) {
                put(184 + t.r);
            } else if (t.form == 6) {
                put(199);
            } else {
                put(t.form == 3 ? 139 : 137);
            }
        }

        private static boolean hasOperand(Instruction t) {
            if (t.form == 1) {
                return t.op == NOT || t.op == NEG;
            }
            return t.form != 0 && t.form != 8 && !(t.form == 5 && t.op == MOV);
        }

        /** The k of /k: a register, or what tells the OP. */
        private static int middleOf(Instruction t) {
            if (t.form == 2) {
                return t.op == IMUL ? t.r : t.x;
            }
            if (t.form == 3 || t.form == 4) {
                return t.r;
            }
            switch (t.op) {
                case MOV:
                    return 0;
                case NOT:
                    return 2;
                case NEG:
                    return 3;
                case SHL:
                    return 4;
                case SHR:
                    return 5;
                case SAR:
                    return 7;
                default:
                    return t.op;
            }
        }

        private void putOperand(Instruction t) {
            int middle = 8 * middleOf(t);
            if (!isMemoryForm(t.form)) {
                put(192 + middle + (t.form == 2 && t.op == IMUL ? t.x : t.r));
                return;
            }
            int base = t.base();
            boolean noBase = base == NO_REGISTER;
            boolean noIndex = t.index() == NO_REGISTER;
            int mode = isSmall(t.d) ? 1 : 2;
            if (noBase || t.d == 0 && base != 5) {
                mode = 0;
            }
            if (noIndex && base != STACK) {
                put(64 * mode + middle + (noBase ? 5 : base));
            } else {
                put(64 * mode + middle + 4);
                put(64 * t.scale() + 8 * (noIndex ? 4 : t.index()) + (noBase ? 5 : base));
            }
            if (noBase || mode == 2) {
                putFour(t.d);
            } else if (mode == 1) {
                put(t.d);
            }
        }

        private void putValue(Instruction t) {
            if (t.form != 5 && t.form != 6 && t.form != 8) {
                return;
            }
            if (isShift(t.op) || t.op != MOV && isSmall(t.i)) {
                put(t.i);
            } else {
                putFour(t.i);
            }
        }
    }

    /** Builds THE DRAFT to THE CODE: first where all is laid, and only if there is no FAULT the BYTES. */
    private static final class Builder {
        int faultItem = NONE;
        private final Program draft;
        private final Strip target;
        private final Piece piece = new Piece();
        private final Instruction item = new Instruction();
        private final int[] length = new int[ITEMS_MOST];
        private int next;

        Builder(Program source, Strip strip) {
            draft = source;
            target = strip;
        }

        int findFault() {
            draft.findLabels();
            for (int k = 0; k < draft.count; k++) {
                int fault = faultOf(k);
                if (fault != 0) {
                    faultItem = k;
                    return fault;
                }
            }
            faultItem = NONE;
            measure();
            // Each turn but the last makes at least one ITEM LONG, and none SHORT again.
            boolean settled = false;
            for (int turn = 0; turn <= ITEMS_MOST && !settled; turn++) {
                layAll();
                settled = !lengthen();
            }
            return wholeSize() > CODE_MOST ? 4 : 0;
        }

        private int faultOf(int k) {
            if (!draft.hasItem(k)) {
                return 0;
            }
            int told = draft.labelItem(draft.a[k]);
            switch (draft.sort[k]) {
                case ITEM_LABEL:
                    return told == k ? 0 : 1;
                case ITEM_JUMP:
                case ITEM_BRANCH:
                case ITEM_CALL:
                    return told == NONE ? 2 : 0;
                case ITEM_ADDRESS:
                    if (told == NONE) {
                        return 2;
                    }
                    return draft.isMarked(told) ? 0 : 3;
                default:
                    return 0;
            }
        }

        /** How long each ITEM'S first piece is. */
        private void measure() {
            for (int k = 0; k < draft.count && k < ITEMS_MOST; k++) {
                switch (draft.sort[k]) {
                    case ITEM_LABEL:
                        length[k] = 0;
                        break;
                    case ITEM_JUMP:
                    case ITEM_BRANCH:
                        length[k] = SHORT_LENGTH;
                        break;
                    case ITEM_RETURN:
                        length[k] = 1;
                        break;
                    case ITEM_PLAIN:
                        draft.loadItem(k, item);
                        piece.become(item);
                        length[k] = piece.count;
                        break;
                    default:
                        length[k] = LAST_LENGTH;
                        break;
                }
            }
        }

        private void layAll() {
            next = 0;
            for (int k = 0; k < draft.count && k < ITEMS_MOST; k++) {
                draft.placeRow[k] = layItem(k);
            }
            draft.tail = next;
        }

        private int layItem(int k) {
            if (draft.pushes(k)) {
                return layLast(length[k]);
            }
            if (draft.isMarked(k)) {
                next = (next + BUNDLE - 1) / BUNDLE * BUNDLE;
            }
            int laid = layPiece(length[k]);
            if (draft.sort[k] == ITEM_RETURN) {
                layPiece(LAST_LENGTH);
            }
            return laid;
        }

        private int leftInBundle() {
            return BUNDLE - next % BUNDLE;
        }

        private int layPiece(int bytes) {
            if (bytes > leftInBundle()) {
                next += leftInBundle();
            }
            int laid = next;
            next += bytes;
            return laid;
        }

        private int layLast(int bytes) {
            if (bytes > leftInBundle()) {
                next += leftInBundle();
            }
            next += leftInBundle();
            return next - bytes;
        }

        private boolean lengthen() {
            boolean some = false;
            for (int k = 0; k < draft.count && k < ITEMS_MOST; k++) {
                boolean jumps = draft.sort[k] == ITEM_JUMP || draft.sort[k] == ITEM_BRANCH;
                if (jumps && length[k] == SHORT_LENGTH && !isSmall(distance(k))) {
                    length[k] = draft.sort[k] == ITEM_JUMP ? 5 : 6;
                    some = true;
                }
            }
            return some;
        }

        private int labelPlace(int k) {
            return draft.itemPlace(draft.labelItem(draft.a[k]));
        }

        private int distance(int k) {
            return labelPlace(k) - (draft.placeRow[k] + length[k]);
        }

        private int wholeSize() {
            return (draft.tail / BUNDLE + 1) * BUNDLE;
        }

        /** Only behind a findFault() that found none. */
        void writeCode() {
            draft.findLandings();
            target.becomeFilling(wholeSize(), draft.tail);
            for (int k = 0; k < draft.count && k < ITEMS_MOST; k++) {
                makePiece(k);
                target.putPiece(draft.placeRow[k], piece);
                if (draft.sort[k] == ITEM_RETURN) {
                    next = draft.placeRow[k] + length[k];
                    piece.becomePair(1, false);
                    target.putPiece(layPiece(LAST_LENGTH), piece);
                }
            }
        }

        private void makePiece(int k) {
            int a = draft.a[k];
            switch (draft.sort[k]) {
                case ITEM_LABEL:
                    piece.count = 0;
                    break;
                case ITEM_JUMP:
                case ITEM_BRANCH:
                    makeJump(k, distance(k));
                    break;
                case ITEM_CALL:
                    piece.becomeWithFour(232, distance(k));
                    break;
                case ITEM_SERVICE:
                    piece.becomeWithFour(232, BUNDLE * a - (CODE_AT + draft.placeRow[k] + length[k]));
                    break;
                case ITEM_GO:
                    piece.becomePair(a, false);
                    break;
                case ITEM_GOSUB:
                    piece.becomePair(a, true);
                    break;
                case ITEM_RETURN:
                    piece.becomeRegisterOp(88, 1);
                    break;
                case ITEM_ADDRESS:
                    piece.becomeWithFour(184 + draft.b[k], CODE_AT + labelPlace(k));
                    break;
                default:
                    draft.loadItem(k, item);
                    piece.become(item);
                    break;
            }
        }

        private void makeJump(int k, int far) {
            boolean isShort = length[k] == SHORT_LENGTH;
            if (draft.sort[k] == ITEM_JUMP) {
                if (isShort) {
                    piece.becomeShort(235, far);
                } else {
                    piece.becomeWithFour(233, far);
                }
            } else if (isShort) {
                piece.becomeShort(112 + draft.b[k], far);
            } else {
                piece.becomeLongBranch(draft.b[k], far);
            }
        }
    }

    /** The FLAGS, each 0, 1 or UNKNOWN, and the OPS that reckon. */
    private static final class Flags {
        private static final long UNSIGNED = 0xFFFFFFFFL;

        int carry;
        int zero;
        int sign;
        int overflow;

        void setAll(int value) {
            carry = value;
            zero = value;
            sign = value;
            overflow = value;
        }

        int reckon(int op, int left, int right) {
            int carryAhead = carry;
            int result = left;
            switch (op) {
                case ADD:
                    result = sum(left, right, 0);
                    break;
                case ADC:
                    result = sum(left, right, carry);
                    break;
                case SBB:
                    result = difference(left, right, carry);
                    break;
                case SUB:
                case CMP:
                    result = difference(left, right, 0);
                    break;
                case NEG:
                    result = difference(0, left, 0);
                    break;
                case INC:
                    result = sum(left, 1, 0);
                    carry = carryAhead;
                    break;
                case DEC:
                    result = difference(left, 1, 0);
                    carry = carryAhead;
                    break;
                case IMUL:
                    result = product(left, right);
                    break;
                case NOT:
                    return ~left;
                case SHL:
                case SHR:
                case SAR:
                    if ((right & 31) == 0) {
                        return left;
                    }
                    result = shifted(op, left, right & 31);
                    break;
                default:
                    result = logic(op, left, right);
                    break;
            }
            zero = result == 0 ? 1 : 0;
            sign = result < 0 ? 1 : 0;
            return result;
        }

        private int sum(int left, int right, int more) {
            carry = (left & UNSIGNED) + (right & UNSIGNED) + more > UNSIGNED ? 1 : 0;
            return narrowed((long) left + right + more);
        }

        private int difference(int left, int right, int more) {
            carry = (right & UNSIGNED) + more > (left & UNSIGNED) ? 1 : 0;
            return narrowed((long) left - right - more);
        }

        private int product(int left, int right) {
            int result = narrowed((long) left * right);
            carry = overflow;
            return result;
        }

        private int narrowed(long exact) {
            overflow = exact == (int) exact ? 0 : 1;
            return (int) exact;
        }

        private int logic(int op, int left, int right) {
            carry = 0;
            overflow = 0;
            if (op == OR) {
                return left | right;
            }
            return op == XOR ? left ^ right : left & right;
        }

        private int shifted(int op, int left, int by) {
            if (op == SHL) {
                int result = left << by;
                carry = left >>> 32 - by & 1;
                overflow = result >>> 31 ^ carry;
                return result;
            }
            carry = left >>> by - 1 & 1;
            overflow = op == SHR ? left >>> 31 : 0;
            return op == SHR ? left >>> by : left >> by;
        }

        boolean isUnknownTo(int condition) {
            switch (condition >> 1) {
                case 0:
                    return overflow == UNKNOWN_FLAG;
                case 1:
                    return carry == UNKNOWN_FLAG;
                case 2:
                    return zero == UNKNOWN_FLAG;
                case 3:
                    return carry == UNKNOWN_FLAG || zero == UNKNOWN_FLAG;
                case 4:
                    return sign == UNKNOWN_FLAG;
                case 6:
                    return sign == UNKNOWN_FLAG || overflow == UNKNOWN_FLAG;
                default:
                    return zero == UNKNOWN_FLAG || sign == UNKNOWN_FLAG || overflow == UNKNOWN_FLAG;
            }
        }

        boolean holds(int condition) {
            boolean even = (condition & 1) == 0;
            switch (condition >> 1) {
                case 0:
                    return even == (overflow == 1);
                case 1:
                    return even == (carry == 1);
                case 2:
                    return even == (zero == 1);
                case 3:
                    return even == (carry == 1 || zero == 1);
                case 4:
                    return even == (sign == 1);
                case 6:
                    return even == (sign != overflow);
                default:
                    return even == (zero == 1 || sign != overflow);
            }
        }
    }

    /** What a RUN or a WALK works on, and what it left; or what both begin with. */
    private static final class Machine {
        final Flags flags = new Flags();
        int address;
        int steps;
        int stop;
        int strays;
        boolean isHidden;
        boolean hasRun;
        private final int[] register = new int[REGISTERS];
        private final int[] bytes = new int[DATA_MOST];
        private final int[] inputRow = new int[INPUT_MOST];
        private int inputCount;
        private int inputNext;
        private final int[] outputRow = new int[OUTPUT_MOST];
        private int outputCount;

        void forget() {
            for (int k = 0; k < REGISTERS; k++) {
                register[k] = 0;
            }
            for (int a = 0; a < DATA_MOST; a++) {
                bytes[a] = 0;
            }
            inputCount = 0;
        }

        void beginAs(Machine other) {
            System.arraycopy(other.register, 0, register, 0, REGISTERS);
            System.arraycopy(other.bytes, 0, bytes, 0, DATA_MOST);
            System.arraycopy(other.inputRow, 0, inputRow, 0, INPUT_MOST);
            inputCount = other.inputCount;
            inputNext = 0;
            outputCount = 0;
            flags.setAll(0);
            isHidden = false;
            address = CODE_AT;
            steps = 0;
            stop = STOP_FUEL;
            strays = 0;
            hasRun = true;
        }

        boolean addInput(int v) {
            if (inputCount >= INPUT_MOST) {
                return false;
            }
            inputRow[inputCount] = v;
            inputCount++;
            return true;
        }

        int part(int what) {
            switch (what) {
                case 8:
                    return flags.carry;
                case 9:
                    return flags.zero;
                case 10:
                    return flags.sign;
                case 11:
                    return flags.overflow;
                case 12:
                    return address;
                case 13:
                    return steps;
                case 14:
                    return stop;
                case 15:
                    return outputCount;
                case 16:
                    return strays;
                case 17:
                    return isHidden ? 1 : 0;
                default:
                    return registerAt(what);
            }
        }

        int byteAt(int a) {
            return a < 0 || a >= DATA_MOST ? NONE : bytes[a];
        }

        boolean hasOutput(int i) {
            return i >= 0 && i < outputCount && i < OUTPUT_MOST;
        }

        int outputAt(int i) {
            return hasOutput(i) ? outputRow[i] : NONE;
        }

        /** 0 for NO_REGISTER, which is what it adds to an address. */
        int registerAt(int k) {
            return isRegister(k) ? register[k] : 0;
        }

        void give(int k, int v) {
            if (isRegister(k)) {
                register[k] = v;
                isHidden = isHidden && k != 1;
            }
        }

        int wordAt(int a) {
            if (!isWord(a)) {
                return 0;
            }
            return bytes[a] | bytes[a + 1] << 8 | bytes[a + 2] << 16 | bytes[a + 3] << 24;
        }

        void giveWord(int a, int v) {
            if (isWord(a)) {
                bytes[a] = v & 255;
                bytes[a + 1] = v >>> 8 & 255;
                bytes[a + 2] = v >>> 16 & 255;
                bytes[a + 3] = v >>> 24;
            }
        }

        boolean canPush() {
            return isWord(register[STACK] - 4);
        }

        boolean canPop() {
            return isWord(register[STACK]);
        }

        void push(int v) {
            register[STACK] -= 4;
            giveWord(register[STACK], v);
        }

        int pop() {
            int v = wordAt(register[STACK]);
            register[STACK] += 4;
            return v;
        }

        boolean isFullFor(int service) {
            return service == SERVICE_OUT && outputCount >= OUTPUT_MOST;
        }

        void serve(int service) {
            if (service == SERVICE_IN) {
                boolean hasMore = inputNext < inputCount && inputNext < INPUT_MOST;
                register[0] = hasMore ? inputRow[inputNext] : 0;
                inputNext += hasMore ? 1 : 0;
            } else if (service == SERVICE_COUNT) {
                register[0] = outputCount;
            } else if (outputCount < OUTPUT_MOST) {
                outputRow[outputCount] = register[3];
                outputCount++;
            }
        }

        /** Does an INSTRUCTION that goes on with the next one, or tells with what it STOPS. */
        int perform(Instruction t) {
            if (readsUnknown(t)) {
                return STOP_UNKNOWN;
            }
            int at = isMemoryForm(t.form) ? addressOf(t) : 0;
            if (lacksWord(t, at)) {
                return STOP_DATA;
            }
            switch (t.op) {
                case MOV:
                    giveLeft(t, at, rightOf(t, at));
                    break;
                case LEA:
                    give(t.r, at);
                    break;
                case PUSH:
                    push(t.form == 8 ? t.i : registerAt(t.r));
                    break;
                case POP:
                    give(t.r, pop());
                    break;
                case NOP:
                    break;
                case CMP:
                case TEST:
                    flags.reckon(t.op, leftOf(t, at), rightOf(t, at));
                    break;
                default:
                    giveLeft(t, at, flags.reckon(t.op, leftOf(t, at), rightOf(t, at)));
                    break;
            }
            return GOES;
        }

        private boolean readsUnknown(Instruction t) {
            if ((t.op == ADC || t.op == SBB) && flags.carry == UNKNOWN_FLAG) {
                return true;
            }
            if (!isHidden) {
                return false;
            }
            if (isMemoryForm(t.form) && (t.base() == 1 || t.index() == 1)) {
                return true;
            }
            if (t.form == 2 && t.x == 1) {
                return true;
            }
            boolean namesIt = t.form >= 1 && t.form <= 5 && t.r == 1;
            boolean onlyGivesIt = t.op == LEA || t.op == POP || t.op == MOV && t.form != 4;
            return namesIt && !onlyGivesIt;
        }

        private boolean lacksWord(Instruction t, int at) {
            if (t.op == PUSH) {
                return !canPush();
            }
            if (t.op == POP) {
                return !canPop();
            }
            return isMemoryForm(t.form) && t.op != LEA && !isWord(at);
        }

        private int addressOf(Instruction t) {
            return registerAt(t.base()) + (registerAt(t.index()) << t.scale()) + t.d;
        }

        private static boolean changesWord(Instruction t) {
            return t.form == 4 || t.form == 6 || t.form == 7;
        }

        private int leftOf(Instruction t, int at) {
            return changesWord(t) ? wordAt(at) : registerAt(t.r);
        }

        private int rightOf(Instruction t, int at) {
            switch (t.form) {
                case 2:
                    return registerAt(t.x);
                case 3:
                    return wordAt(at);
                case 4:
                    return registerAt(t.r);
                default:
                    return t.i;
            }
        }

        private void giveLeft(Instruction t, int at, int v) {
            if (changesWord(t)) {
                giveWord(at, v);
            } else {
                give(t.r, v);
            }
        }
    }

    /** A RUN of THE CODE. */
    private static final class Runner {
        private final Strip strip;
        private final Reader reader;
        private final Machine machine;

        Runner(Strip held, Reader itsReader, Machine runs) {
            strip = held;
            reader = itsReader;
            machine = runs;
        }

        int goOn(int fuel) {
            int stop = GOES;
            for (int turn = 0; turn < fuel && stop == GOES; turn++) {
                stop = isService(machine.address) ? serve(machine.address) : step(machine.address);
            }
            machine.stop = stop == GOES ? STOP_FUEL : stop;
            return machine.stop;
        }

        private int serve(int service) {
            if (service == SERVICE_EXIT) {
                machine.steps++;
                return STOP_EXIT;
            }
            if (!machine.canPop()) {
                return STOP_DATA;
            }
            if (machine.isFullFor(service)) {
                return STOP_FULL;
            }
            machine.serve(service);
            machine.address = machine.pop() & -BUNDLE;
            machine.steps++;
            return GOES;
        }

        private int step(int address) {
            int place = address - CODE_AT;
            if (address < CODE_AT || place >= strip.count) {
                return STOP_WILD;
            }
            // No START is a RET, and a RUN comes to STARTS alone.
            if (!reader.read(place) || reader.found.op == RET) {
                return STOP_BAD;
            }
            Instruction t = reader.found;
            int behind = address + t.length;
            int stop = STOP_HALT;
            if (t.op >= JUMP) {
                stop = turnOff(t, behind);
            } else if (t.op != HALT) {
                stop = machine.perform(t);
                machine.address = stop == GOES ? behind : address;
            }
            if (stop == GOES || stop == STOP_HALT) {
                machine.steps++;
                machine.strays += strip.markAt(place) == NO_START ? 1 : 0;
            }
            return stop;
        }

        private int turnOff(Instruction t, int behind) {
            boolean pushes = t.op == CALL || t.op == GOSUB;
            if (pushes && !machine.canPush()) {
                return STOP_DATA;
            }
            int target = t.form == 8 ? behind + t.i : machine.registerAt(t.r);
            if (pushes) {
                machine.push(behind);
            }
            boolean stays = t.op == BRANCH && !machine.flags.holds(t.r);
            machine.address = stays ? behind : target;
            return GOES;
        }
    }

    /** A WALK of THE PROGRAM. */
    private static final class Walker {
        private final Program program;
        private final Machine machine;
        private final Instruction item = new Instruction();
        /** An ITEM that is no LABEL, the HALT behind all, or (below 0) a SERVICE. */
        private int at;

        Walker(Program walked, Machine walks) {
            program = walked;
            machine = walks;
        }

        int goOn(int fuel) {
            int stop = GOES;
            at = program.pastLabels(0);
            for (int turn = 0; turn < fuel && stop == GOES; turn++) {
                if (at < 0) {
                    stop = serve((NONE - at) * BUNDLE);
                } else if (!program.hasItem(at)) {
                    stop = standStill(STOP_HALT);
                } else if (program.sort[at] == ITEM_PLAIN) {
                    stop = stepPlain();
                } else {
                    stop = stepFlow(program.sort[at], program.a[at], program.b[at]);
                }
            }
            machine.address = program.addressOf(at);
            machine.stop = stop == GOES ? STOP_FUEL : stop;
            return machine.stop;
        }

        private int goTo(int next) {
            machine.steps++;
            at = next < 0 ? next : program.pastLabels(next);
            return GOES;
        }

        private int standStill(int stop) {
            machine.steps++;
            return stop;
        }

        private int serve(int service) {
            if (service == SERVICE_EXIT) {
                return standStill(STOP_EXIT);
            }
            if (!machine.canPop()) {
                return STOP_DATA;
            }
            int next = program.landingAt(machine.wordAt(machine.registerAt(STACK)));
            if (next == Program.NOWHERE) {
                return STOP_LOST;
            }
            if (machine.isFullFor(service)) {
                return STOP_FULL;
            }
            machine.serve(service);
            machine.pop();
            return goTo(next);
        }

        private int stepFlow(int sort, int a, int b) {
            switch (sort) {
                case ITEM_JUMP:
                    return goTo(program.labelItem(a));
                case ITEM_BRANCH:
                    if (machine.flags.isUnknownTo(b)) {
                        return STOP_UNKNOWN;
                    }
                    return goTo(machine.flags.holds(b) ? program.labelItem(a) : at + 1);
                case ITEM_CALL:
                    return callTo(program.labelItem(a));
                case ITEM_SERVICE:
                    return callTo(NONE - a);
                case ITEM_GO:
                    return goByRegister(a, false);
                case ITEM_GOSUB:
                    return goByRegister(a, true);
                case ITEM_RETURN:
                    return goBack();
                default:
                    machine.give(b, program.addressOf(program.labelItem(a)));
                    return goTo(at + 1);
            }
        }

        private int stepPlain() {
            program.loadItem(at, item);
            if (item.op == HALT) {
                return standStill(STOP_HALT);
            }
            int stop = machine.perform(item);
            return stop == GOES ? goTo(at + 1) : stop;
        }

        private int addressBehind() {
            return program.addressOf(at) + LAST_LENGTH;
        }

        private int callTo(int next) {
            if (!machine.canPush()) {
                return STOP_DATA;
            }
            machine.push(addressBehind());
            return goTo(next);
        }

        private int goByRegister(int r, boolean pushes) {
            if (r == 1 && machine.isHidden) {
                return STOP_UNKNOWN;
            }
            int next = program.landingAt(machine.registerAt(r));
            if (next == Program.NOWHERE) {
                return STOP_LOST;
            }
            if (pushes && !machine.canPush()) {
                return STOP_DATA;
            }
            if (pushes) {
                machine.push(addressBehind());
            }
            machine.flags.setAll(UNKNOWN_FLAG);
            return goTo(next);
        }

        private int goBack() {
            if (!machine.canPop()) {
                return STOP_DATA;
            }
            int next = program.landingAt(machine.wordAt(machine.registerAt(STACK)));
            if (next == Program.NOWHERE) {
                return STOP_LOST;
            }
            machine.pop();
            machine.give(1, 0);
            machine.isHidden = true;
            machine.flags.setAll(UNKNOWN_FLAG);
            return goTo(next);
        }
    }
}
