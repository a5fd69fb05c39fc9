/**
 * A machine that does the rows of a story format one by one.
 *
 * The numbers of operations and modes stand here as they stand in the document, so that the two can be
 * read side by side. Nothing is made after the constructor: every call uses the same arrays again.
 */
public final class GlulxModes {
    public static final int BAD = -1, NONE = -2;

    private static final int OUTSIDE = 1, MODE = 2, OPERATION = 3, UNDER = 4, FULL = 5;
    private static final int ZERO = 6, LOCAL = 7, FIXED = 8, KEY = 9;
    private static final int NO_FAULT = 0;

    private static final int MEMORY_SIZE = 1024;
    private static final int LOCALS_SIZE = 64;
    private static final int STACK_SIZE = 40;
    private static final int FIRST_RAM = 256;
    private static final int MOST_LOADS = 7;
    private static final int MOST_OPERANDS = 8;
    private static final int MOST_ROWS = 2000;
    private static final int LONGEST_KEY = 64;
    private static final int MOST_SEARCHED = 1024;

    private final Machine machine;
    private Form latest;
    private Form trial;
    private boolean wasRead;

    public GlulxModes() {
        Bytes memory = new Bytes(MEMORY_SIZE);
        machine = new Machine(memory, new Search(memory));
        latest = new Form();
        trial = new Form();
        wasRead = false;
    }

    public int lay(int at, int n, long v) {
        if (n < 1 || n > 8 || !machine.memory.holds(at, n)) {
            return BAD;
        }
        machine.memory.put(at, n, v);
        return 1;
    }

    public int ram(int at) {
        if (at < 0 || at > MEMORY_SIZE) {
            return BAD;
        }
        int before = machine.ramStart;
        machine.ramStart = at;
        return before;
    }

    public int go(int at) {
        int before = machine.pc;
        machine.pc = at;
        machine.done = false;
        return before;
    }

    public int push(int v) {
        if (machine.pile.isFull()) {
            return NONE;
        }
        machine.pile.add(v);
        return machine.pile.count;
    }

    public int clear() {
        int before = machine.pile.count;
        machine.pile.shrinkTo(0);
        machine.locals.zero(0, LOCALS_SIZE);
        return before;
    }

    public int read(int at) {
        int fault = trial.decode(machine.memory, at);
        if (fault != NO_FAULT) {
            return -10 - fault;
        }
        Form older = latest;
        latest = trial;
        trial = older;
        wasRead = true;
        return latest.size;
    }

    public int row(int what) {
        if (what < 0 || (what > 1 && what < 10)) {
            return BAD;
        }
        if (!wasRead) {
            return NONE;
        }
        if (what == 0) {
            return latest.operation;
        }
        if (what == 1) {
            return latest.operands;
        }
        int operand = what < 20 ? what - 10 : what - 20;
        if (operand >= latest.operands) {
            return NONE;
        }
        return what < 20 ? latest.modeOf(operand) : latest.numberOf(operand);
    }

    public int step() {
        machine.fault = NO_FAULT;
        if (machine.done) {
            return 0;
        }
        machine.doOne();
        if (machine.fault != NO_FAULT) {
            return -10 - machine.fault;
        }
        return machine.done ? 0 : 1;
    }

    public int run(int n) {
        if (n < 0 || n > MOST_ROWS) {
            return BAD;
        }
        machine.fault = NO_FAULT;
        int before = machine.rowsDone;
        for (int k = 0; k < n && !machine.done && machine.fault == NO_FAULT; k++) {
            machine.doOne();
        }
        return machine.rowsDone - before;
    }

    public int told(int what) {
        switch (what) {
            case 0: return machine.pc;
            case 1: return machine.done ? 1 : 0;
            case 2: return machine.answer;
            case 3: return machine.pile.count;
            case 4: return machine.ramStart;
            case 5: return machine.fault;
            case 6: return machine.rowsDone;
            default: return BAD;
        }
    }

    public int octet(int at) {
        return machine.memory.holds(at, 1) ? machine.memory.byteAt(at) : BAD;
    }

    public int local(int at) {
        return machine.locals.holds(at, 4) ? machine.locals.number(at, 4) : 0;
    }

    public int stack(int k) {
        return machine.pile.fromTop(k);
    }

    /** Bytes at places from 0 on; a place that is not there reads as 0 and takes nothing. */
    private static final class Bytes {
        private final byte[] cells;

        private Bytes(int size) {
            cells = new byte[Math.max(size, 0)];
        }

        private boolean holds(int at, int n) {
            // Written without at + n, which could wrap.
            return at >= 0 && n >= 0 && n <= cells.length && at <= cells.length - n;
        }

        private int byteAt(int at) {
            return at >= 0 && at < cells.length ? cells[at] & 0xFF : 0;
        }

        private void putByte(int at, int v) {
            if (at >= 0 && at < cells.length) {
                cells[at] = (byte) v;
            }
        }

        /** One or two bytes give a number without a sign, four an int. */
        private int number(int at, int n) {
            int v = 0;
            for (int k = 0; k < n; k++) {
                v = (v << 8) | byteAt(at + k);
            }
            return v;
        }

        private void put(int at, int n, long v) {
            long rest = v;
            for (int k = n - 1; k >= 0; k--) {
                int place = at + k;
                if (place >= 0 && place < cells.length) {
                    cells[place] = (byte) rest;
                }
                rest = rest >>> 8;
            }
        }

        private void zero(int at, int n) {
            if (holds(at, n)) {
                for (int k = 0; k < n; k++) {
                    putByte(at + k, 0);
                }
            }
        }

        private void move(int from, int to, int n) {
            if (holds(from, n) && holds(to, n)) {
                System.arraycopy(cells, from, cells, to, n);
            }
        }
    }

    /** The STACK. Taking off leaves the cell's int where it is, so that growBack can undo it. */
    private static final class Pile {
        private final int[] cells;
        private final int[] spare;
        private int count;

        private Pile() {
            cells = new int[STACK_SIZE];
            spare = new int[STACK_SIZE];
            count = 0;
        }

        private boolean isFull() {
            return count >= STACK_SIZE;
        }

        private int cell(int at) {
            return at >= 0 && at < cells.length ? cells[at] : 0;
        }

        private void setCell(int at, int v) {
            if (at >= 0 && at < cells.length) {
                cells[at] = v;
            }
        }

        private boolean hasUpper(int n) {
            return n >= 0 && n <= count;
        }

        private int fromTop(int k) {
            return k >= 0 && k < count ? cell(count - 1 - k) : 0;
        }

        private void add(int v) {
            if (!isFull()) {
                setCell(count, v);
                count++;
            }
        }

        private int takeOff() {
            if (count <= 0) {
                return 0;
            }
            count--;
            return cell(count);
        }

        private void shrinkTo(int n) {
            if (hasUpper(n)) {
                count = n;
            }
        }

        private void growBack(int n) {
            if (n >= count && n <= STACK_SIZE) {
                count = n;
            }
        }

        private void swapUpper() {
            int top = cell(count - 1);
            setCell(count - 1, cell(count - 2));
            setCell(count - 2, top);
        }

        private void turnUpper(int n, int by) {
            if (n <= 0 || n > count) {
                return;
            }
            int lowest = count - n;
            int up = Math.floorMod(by, n);
            for (int k = 0; k < n && k < spare.length; k++) {
                spare[k] = cell(lowest + k);
            }
            for (int k = 0; k < n && k < spare.length; k++) {
                setCell(lowest + (k + up) % n, spare[k]);
            }
        }

        private void repeatUpper(int n) {
            int lowest = count - n;
            for (int k = 0; k < n; k++) {
                add(cell(lowest + k));
            }
        }
    }

    /** A ROW as it was read: its operation, and of each operand its mode and its number. */
    private static final class Form {
        private final int[] modes;
        private final int[] numbers;
        private int operation;
        private int loads;
        private int operands;
        private int size;

        private Form() {
            modes = new int[MOST_OPERANDS];
            numbers = new int[MOST_OPERANDS];
        }

        private int modeOf(int k) {
            return k >= 0 && k < modes.length ? modes[k] : 0;
        }

        private int numberOf(int k) {
            return k >= 0 && k < numbers.length ? numbers[k] : 0;
        }

        /** Answers the FAULT; behind one, what this holds is of no use. */
        private int decode(Bytes memory, int at) {
            int width = operationWidth(memory.byteAt(at));
            if (!memory.holds(at, width)) {
                return OUTSIDE;
            }
            operation = operationOf(memory.number(at, width), width);
            loads = Shape.loadsOf(operation);
            if (loads < 0) {
                return OPERATION;
            }
            operands = Shape.stores(operation) ? loads + 1 : loads;
            int modeBytes = (operands + 1) / 2;
            if (!memory.holds(at + width, modeBytes)) {
                return OUTSIDE;
            }
            decodeModes(memory, at + width);
            int end = decodeNumbers(memory, at + width + modeBytes);
            if (end < 0) {
                return OUTSIDE;
            }
            size = end - at;
            return modesAreFit() ? NO_FAULT : MODE;
        }

        private static int operationWidth(int first) {
            if (first < 128) {
                return 1;
            }
            return first < 192 ? 2 : 4;
        }

        private static int operationOf(int bytes, int width) {
            if (width == 1) {
                return bytes;
            }
            return width == 2 ? bytes & 0x3FFF : bytes & 0x0FFFFFFF;
        }

        private void decodeModes(Bytes memory, int at) {
            for (int k = 0; k < operands && k < modes.length; k++) {
                int pair = memory.byteAt(at + k / 2);
                modes[k] = k % 2 == 0 ? pair & 15 : pair >> 4;
            }
        }

        /** Answers the place behind the ROW, or -1 if its bytes are not all there. */
        private int decodeNumbers(Bytes memory, int at) {
            int place = at;
            for (int k = 0; k < operands && k < numbers.length; k++) {
                int width = numberWidth(modeOf(k));
                if (!memory.holds(place, width)) {
                    return -1;
                }
                int number = memory.number(place, width);
                numbers[k] = modeOf(k) < 4 ? signed(number, width) : number;
                place += width;
            }
            return place;
        }

        private static int numberWidth(int mode) {
            int low = mode & 3;
            return low == 3 ? 4 : low;
        }

        private static int signed(int number, int width) {
            if (width == 1) {
                return (byte) number;
            }
            return width == 2 ? (short) number : number;
        }

        private boolean modesAreFit() {
            for (int k = 0; k < operands; k++) {
                int mode = modeOf(k);
                boolean isStore = k >= loads;
                if (mode == 4 || mode == 12 || (isStore && mode >= 1 && mode <= 3)) {
                    return false;
                }
            }
            return true;
        }
    }

    /** Which operations there are, and what operands each has: loads, and behind them at most one store. */
    private static final class Shape {
        /** How many loads an operation has; -1: it is none. */
        private static int loadsOf(int operation) {
            switch (operation) {
                case 0x00: case 0x50: case 0x52: case 0x120:
                    return 0;
                case 0x15: case 0x1B: case 0x20: case 0x31: case 0x40: case 0x41: case 0x42:
                case 0x44: case 0x45: case 0x51: case 0x54: case 0x104:
                    return 1;
                case 0x10: case 0x11: case 0x12: case 0x13: case 0x14: case 0x18: case 0x19: case 0x1A:
                case 0x1C: case 0x1D: case 0x1E: case 0x22: case 0x23:
                case 0x48: case 0x49: case 0x4A: case 0x4B: case 0x53: case 0x100: case 0x170:
                    return 2;
                case 0x24: case 0x25: case 0x26: case 0x27: case 0x28: case 0x29:
                case 0x2A: case 0x2B: case 0x2C: case 0x2D:
                case 0x4C: case 0x4D: case 0x4E: case 0x4F: case 0x171:
                    return 3;
                case 0x150: case 0x151:
                    return MOST_LOADS;
                default:
                    return -1;
            }
        }

        private static boolean stores(int operation) {
            switch (operation) {
                case 0x10: case 0x11: case 0x12: case 0x13: case 0x14: case 0x15:
                case 0x18: case 0x19: case 0x1A: case 0x1B: case 0x1C: case 0x1D: case 0x1E:
                case 0x40: case 0x41: case 0x42: case 0x44: case 0x45:
                case 0x48: case 0x49: case 0x4A: case 0x4B:
                case 0x50: case 0x51: case 0x100: case 0x150: case 0x151:
                    return true;
                default:
                    return false;
            }
        }

        /** How many bytes are loaded and stored. */
        private static int widthOf(int operation) {
            if (operation == 0x41) {
                return 2;
            }
            return operation == 0x42 ? 1 : 4;
        }
    }

    /** What comes of numbers alone. */
    private static final class Reckoning {
        private static int result(int operation, int a, int b) {
            switch (operation) {
                case 0x10: return a + b;
                case 0x11: return a - b;
                case 0x12: return a * b;
                case 0x13: return b == 0 ? 0 : a / b;
                case 0x14: return b == 0 ? 0 : a % b;
                case 0x15: return -a;
                case 0x18: return a & b;
                case 0x19: return a | b;
                case 0x1A: return a ^ b;
                case 0x1B: return ~a;
                case 0x1C: return isShift(b) ? a << b : 0;
                case 0x1D: return isShift(b) ? a >> b : a >> 31;
                case 0x1E: return isShift(b) ? a >>> b : 0;
                case 0x44: return (short) a;
                case 0x45: return (byte) a;
                default: return a;
            }
        }

        private static boolean isShift(int bits) {
            return bits >= 0 && bits <= 31;
        }

        private static boolean branches(int operation, int a, int b) {
            switch (operation) {
                case 0x20: return true;
                case 0x22: return a == 0;
                case 0x23: return a != 0;
                case 0x24: return a == b;
                case 0x25: return a != b;
                case 0x26: return a < b;
                case 0x27: return a >= b;
                case 0x28: return a > b;
                case 0x29: return a <= b;
                case 0x2A: return Integer.compareUnsigned(a, b) < 0;
                case 0x2B: return Integer.compareUnsigned(a, b) >= 0;
                case 0x2C: return Integer.compareUnsigned(a, b) > 0;
                case 0x2D: return Integer.compareUnsigned(a, b) <= 0;
                default: return false;
            }
        }

        private static int ability(int which) {
            switch (which) {
                case 0: return 0x30102;
                case 1: return 0x10101;
                case 2: case 3: case 5: case 6: return 1;
                default: return 0;
            }
        }
    }

    /** A SEARCH in a table; the KEY is kept apart from MEMORY, as it may be a plain number. */
    private static final class Search {
        private final Bytes memory;
        private final Bytes key;
        private int keySize;
        private int start;
        private int each;
        private int many;
        private int where;
        private int options;
        private int fault;

        private Search(Bytes searched) {
            memory = searched;
            key = new Bytes(LONGEST_KEY);
        }

        private void lookIn(int from, int eachSize, int howMany, int keyPlace) {
            start = from;
            each = eachSize;
            where = keyPlace;
            many = Integer.compareUnsigned(howMany, MOST_SEARCHED) > 0 ? MOST_SEARCHED : howMany;
        }

        private void lookFor(int keyGiven, int size, int optionBits) {
            options = optionBits;
            keySize = size;
            fault = isIndirect() ? takeKeyAt(keyGiven) : takeKeyOf(keyGiven);
        }

        private boolean isIndirect() {
            return (options & 1) != 0;
        }

        private boolean isEnded() {
            return (options & 2) != 0;
        }

        private boolean wantsPlace() {
            return (options & 4) != 0;
        }

        private int takeKeyAt(int place) {
            if (keySize < 1 || keySize > LONGEST_KEY) {
                return KEY;
            }
            if (!memory.holds(place, keySize)) {
                return OUTSIDE;
            }
            for (int k = 0; k < keySize; k++) {
                key.putByte(k, memory.byteAt(place + k));
            }
            return NO_FAULT;
        }

        private int takeKeyOf(int number) {
            if (keySize != 1 && keySize != 2 && keySize != 4) {
                return KEY;
            }
            key.put(0, keySize, number);
            return NO_FAULT;
        }

        private int oneByOne() {
            for (int m = 0; m < many && fault == NO_FAULT; m++) {
                if (!isThere(m)) {
                    return missing();
                }
                if (compare(m) == 0) {
                    return found(m);
                }
                if (isEnded() && isBlank(m)) {
                    return missing();
                }
            }
            return missing();
        }

        private int byHalves() {
            int b = 0;
            int t = many;
            // 1024 are halved away in eleven turns; the counter only shows that there is an end.
            for (int turn = 0; turn < 32 && b < t && fault == NO_FAULT; turn++) {
                int m = (b + t) / 2;
                if (!isThere(m)) {
                    return missing();
                }
                int order = compare(m);
                if (order == 0) {
                    return found(m);
                }
                if (order < 0) {
                    b = m + 1;
                } else {
                    t = m;
                }
            }
            return missing();
        }

        private int keyPlaceOf(int m) {
            return start + m * each + where;
        }

        private boolean isThere(int m) {
            boolean there = memory.holds(keyPlaceOf(m), keySize);
            if (!there) {
                fault = OUTSIDE;
            }
            return there;
        }

        /** Below 0 if the key of number m is less than the KEY, 0 if it is alike. */
        private int compare(int m) {
            int place = keyPlaceOf(m);
            for (int k = 0; k < keySize; k++) {
                int order = memory.byteAt(place + k) - key.byteAt(k);
                if (order != 0) {
                    return order;
                }
            }
            return 0;
        }

        private boolean isBlank(int m) {
            int place = keyPlaceOf(m);
            for (int k = 0; k < keySize; k++) {
                if (memory.byteAt(place + k) != 0) {
                    return false;
                }
            }
            return true;
        }

        private int found(int m) {
            return wantsPlace() ? m : start + m * each;
        }

        private int missing() {
            return wantsPlace() ? -1 : 0;
        }
    }

    /** The state, and how a ROW changes it. */
    private static final class Machine {
        private final Bytes memory;
        private final Bytes locals;
        private final Pile pile;
        private final Form form;
        private final Search search;
        private final int[] loaded;
        private int ramStart;
        private int pc;
        private int next;
        private int width;
        private int answer;
        private int fault;
        private int rowsDone;
        private boolean done;

        private Machine(Bytes memoryUsed, Search searchUsed) {
            memory = memoryUsed;
            search = searchUsed;
            locals = new Bytes(LOCALS_SIZE);
            pile = new Pile();
            form = new Form();
            loaded = new int[MOST_LOADS];
            ramStart = FIRST_RAM;
        }

        /**
         * Does the ROW at PC, or sets the FAULT. No operation meets a FAULT behind its first change to MEMORY,
         * LOCALS or what the STACK keeps, so all that a FAULT has to undo is what the loads took off the STACK.
         */
        private void doOne() {
            fault = form.decode(memory, pc);
            if (fault != NO_FAULT) {
                return;
            }
            int had = pile.count;
            next = pc + form.size;
            width = Shape.widthOf(form.operation);
            loadAll();
            int result = fault == NO_FAULT ? perform(form.operation) : 0;
            if (fault == NO_FAULT && form.operands > form.loads) {
                storeOperand(form.loads, result);
            }
            if (fault != NO_FAULT) {
                pile.growBack(had);
                return;
            }
            pc = next;
            rowsDone++;
        }

        private void loadAll() {
            for (int k = 0; k < form.loads && k < loaded.length && fault == NO_FAULT; k++) {
                loaded[k] = loadOperand(k);
            }
        }

        private int load(int k) {
            return k >= 0 && k < loaded.length ? loaded[k] : 0;
        }

        private int loadOperand(int k) {
            int number = form.numberOf(k);
            switch (form.modeOf(k)) {
                case 1: case 2: case 3: return lowest(number);
                case 5: case 6: case 7: return fetch(number, width);
                case 8: return loadTop();
                case 9: case 10: case 11: return loadLocal(number);
                case 13: case 14: case 15: return fetch(ramStart + number, width);
                default: return 0;
            }
        }

        private int lowest(int v) {
            if (width == 4) {
                return v;
            }
            return width == 2 ? v & 0xFFFF : v & 0xFF;
        }

        private int loadTop() {
            if (pile.count == 0) {
                fault = UNDER;
                return 0;
            }
            return lowest(pile.takeOff());
        }

        private int loadLocal(int at) {
            if (!locals.holds(at, width)) {
                fault = LOCAL;
                return 0;
            }
            return locals.number(at, width);
        }

        private int fetch(int at, int n) {
            if (!memory.holds(at, n)) {
                fault = OUTSIDE;
                return 0;
            }
            return memory.number(at, n);
        }

        private void storeOperand(int k, int v) {
            int number = form.numberOf(k);
            switch (form.modeOf(k)) {
                case 5: case 6: case 7: storeMemory(number, width, v); break;
                case 8: storeTop(v); break;
                case 9: case 10: case 11: storeLocal(number, v); break;
                case 13: case 14: case 15: storeMemory(ramStart + number, width, v); break;
                default: break;
            }
        }

        private void storeTop(int v) {
            if (pile.isFull()) {
                fault = FULL;
                return;
            }
            pile.add(v);
        }

        private void storeLocal(int at, int v) {
            if (!locals.holds(at, width)) {
                fault = LOCAL;
                return;
            }
            locals.put(at, width, v);
        }

        private void storeMemory(int at, int n, int v) {
            if (mayStore(at, n)) {
                memory.put(at, n, v);
            }
        }

        private boolean mayStore(int at, int n) {
            if (!memory.holds(at, n)) {
                fault = OUTSIDE;
            } else if (at < ramStart) {
                fault = FIXED;
            }
            return fault == NO_FAULT;
        }

        /** Answers what is to be stored, if the operation stores. */
        private int perform(int operation) {
            int a = load(0);
            int b = load(1);
            switch (operation >> 4) {
                case 0x1: return reckon(operation, a, b);
                case 0x2: return branchIf(Reckoning.branches(operation, a, b));
                case 0x3: return end(a);
                case 0x4: return operation < 0x48 ? Reckoning.result(operation, a, b) : array(operation, a, b);
                case 0x5: return onPile(operation, a, b);
                case 0x10: return operation == 0x104 ? jump(a) : Reckoning.ability(a);
                case 0x12: return end(0);
                case 0x15: return searchTable(operation);
                case 0x17: return operation == 0x170 ? zeroBlock(a, b) : copyBlock(a, b, load(2));
                default: return 0;
            }
        }

        private int reckon(int operation, int a, int b) {
            if ((operation == 0x13 || operation == 0x14) && b == 0) {
                fault = ZERO;
                return 0;
            }
            return Reckoning.result(operation, a, b);
        }

        private int branchIf(boolean taken) {
            int by = load(form.loads - 1);
            if (!taken) {
                return 0;
            }
            if (by == 0 || by == 1) {
                return end(by);
            }
            return jump(next + by - 2);
        }

        private int jump(int to) {
            next = to;
            return 0;
        }

        private int end(int with) {
            done = true;
            answer = with;
            return 0;
        }

        /** 48 to 4B load and 4C to 4F lay; the lowest two bits tell what: an int, two bytes, a byte, a bit. */
        private int array(int operation, int a, int b) {
            int kind = operation & 3;
            int at = itemPlace(kind, a, b);
            int n = itemWidth(kind);
            if (operation < 0x4C) {
                int v = fetch(at, n);
                return kind == 3 ? (v >> (b & 7)) & 1 : v;
            }
            int laid = load(2);
            storeMemory(at, n, kind == 3 ? withBit(memory.byteAt(at), b & 7, laid != 0) : laid);
            return 0;
        }

        private static int itemPlace(int kind, int a, int b) {
            switch (kind) {
                case 0: return a + 4 * b;
                case 1: return a + 2 * b;
                case 2: return a + b;
                default: return a + (b >> 3);
            }
        }

        private static int itemWidth(int kind) {
            switch (kind) {
                case 0: return 4;
                case 1: return 2;
                default: return 1;
            }
        }

        private static int withBit(int before, int place, boolean isSet) {
            int others = before & ~(1 << place);
            return isSet ? others | (1 << place) : others;
        }

        private int onPile(int operation, int a, int b) {
            switch (operation) {
                case 0x50: return pile.count;
                case 0x51: return peek(a);
                case 0x52: return swapPile();
                case 0x53: return turnPile(a, b);
                default: return repeatPile(a);
            }
        }

        private int peek(int k) {
            if (k < 0 || k >= pile.count) {
                fault = UNDER;
                return 0;
            }
            return pile.fromTop(k);
        }

        private int swapPile() {
            if (pile.hasUpper(2)) {
                pile.swapUpper();
            } else {
                fault = UNDER;
            }
            return 0;
        }

        private int turnPile(int n, int by) {
            if (pile.hasUpper(n)) {
                pile.turnUpper(n, by);
            } else {
                fault = UNDER;
            }
            return 0;
        }

        private int repeatPile(int n) {
            if (!pile.hasUpper(n)) {
                fault = UNDER;
            } else if (n > STACK_SIZE - pile.count) {
                fault = FULL;
            } else {
                pile.repeatUpper(n);
            }
            return 0;
        }

        private int zeroBlock(int n, int at) {
            if (n != 0 && mayStore(at, n)) {
                memory.zero(at, n);
            }
            return 0;
        }

        private int copyBlock(int n, int from, int to) {
            if (n == 0) {
                return 0;
            }
            if (!memory.holds(from, n)) {
                fault = OUTSIDE;
            } else if (mayStore(to, n)) {
                memory.move(from, to, n);
            }
            return 0;
        }

        private int searchTable(int operation) {
            search.lookIn(load(2), load(3), load(4), load(5));
            search.lookFor(load(0), load(1), load(6));
            int result = operation == 0x150 ? search.oneByOne() : search.byHalves();
            fault = search.fault;
            return result;
        }
    }
}
