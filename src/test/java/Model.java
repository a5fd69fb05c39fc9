import java.util.ArrayList;
import java.util.Arrays;
import java.util.List;

/**
 * The machine a second time, as plainly as can be, to hold the class against: every row is done on a copy of the state
 * that is thrown away if a fault comes up.
 */
final class Model {
    private static final class Fault extends RuntimeException {
        private static final long serialVersionUID = 1L;
        final int kind;

        Fault(int kind) {
            super(null, null, false, false);
            this.kind = kind;
        }
    }

    private static final String LOADS_AND_STORES =
        "0: 10:lls 11:lls 12:lls 13:lls 14:lls 15:ls 18:lls 19:lls 1a:lls 1b:ls 1c:lls 1d:lls 1e:lls 20:l 22:ll 23:ll"
        + " 24:lll 25:lll 26:lll 27:lll 28:lll 29:lll 2a:lll 2b:lll 2c:lll 2d:lll 31:l 40:ls 41:ls 42:ls 44:ls 45:ls"
        + " 48:lls 49:lls 4a:lls 4b:lls 4c:lll 4d:lll 4e:lll 4f:lll 50:s 51:ls 52: 53:ll 54:l 100:lls 104:l 120:"
        + " 150:llllllls 151:llllllls 170:ll 171:lll";
    private static final java.util.Map<Integer, String> FORMS = new java.util.HashMap<>();

    static {
        for (String pair : LOADS_AND_STORES.split(" ")) {
            String[] parts = pair.split(":", -1);
            FORMS.put(Integer.parseInt(parts[0], 16), parts[1]);
        }
    }

    static List<Integer> operations() {
        return new ArrayList<>(new java.util.TreeSet<>(FORMS.keySet()));
    }

    static String form(int operation) {
        return FORMS.get(operation);
    }

    int[] memory = new int[1024];
    int[] locals = new int[64];
    List<Integer> stack = new ArrayList<>();
    int ram = 256;
    int pc = 0;
    int done = 0;
    int answer = 0;
    int fault = 0;
    int rows = 0;

    /** A row, read. */
    static final class Row {
        int operation;
        String form;
        int[] modes;
        int[] numbers;
        int size;
    }

    private int octet(int at) {
        if (at < 0 || at > 1023) {
            throw new Fault(1);
        }
        return memory[at];
    }

    private int number(int at, int n) {
        long v = 0;
        for (int k = 0; k < n; k++) {
            v = v * 256 + octet(at + k);
        }
        return (int) v;
    }

    private Row rowAt(int at) {
        Row row = new Row();
        int first = octet(at);
        int place = at;
        if (first < 128) {
            row.operation = first;
            place += 1;
        } else if (first < 192) {
            row.operation = number(at, 2) % 16384;
            place += 2;
        } else {
            row.operation = (int) ((number(at, 4) & 0xFFFFFFFFL) % (1 << 28));
            place += 4;
        }
        row.form = FORMS.get(row.operation);
        if (row.form == null) {
            throw new Fault(3);
        }
        int count = row.form.length();
        row.modes = new int[count];
        row.numbers = new int[count];
        for (int k = 0; k < count; k++) {
            row.modes[k] = k % 2 == 0 ? octet(place) % 16 : octet(place++) / 16;
        }
        place += count % 2;
        for (int k = 0; k < count; k++) {
            int width = Bench.widthOf(row.modes[k]);
            row.numbers[k] = number(place, width);
            if (row.modes[k] == 1) {
                row.numbers[k] = (byte) row.numbers[k];
            }
            if (row.modes[k] == 2) {
                row.numbers[k] = (short) row.numbers[k];
            }
            place += width;
        }
        for (int k = 0; k < count; k++) {
            int mode = row.modes[k];
            if (mode == 4 || mode == 12 || row.form.charAt(k) == 's' && mode > 0 && mode < 4) {
                throw new Fault(2);
            }
        }
        row.size = place - at;
        return row;
    }

    Row read(int at) {
        try {
            return rowAt(at);
        } catch (Fault f) {
            Row none = new Row();
            none.size = -10 - f.kind;
            return none;
        }
    }

    private int pop() {
        if (stack.isEmpty()) {
            throw new Fault(4);
        }
        return stack.remove(stack.size() - 1);
    }

    private int load(Row row, int k, int width) {
        int v = row.numbers[k];
        long wide;
        switch (row.modes[k]) {
            case 0: wide = 0; break;
            case 1: case 2: case 3: wide = v; break;
            case 5: case 6: case 7: wide = number(v, width); break;
            case 8: wide = pop(); break;
            case 13: case 14: case 15: wide = number(ram + v, width); break;
            default:
                wide = 0;
                for (int i = 0; i < width; i++) {
                    if (v + i < 0 || v + i > 63) {
                        throw new Fault(7);
                    }
                    wide = wide * 256 + locals[v + i];
                }
        }
        return width == 4 ? (int) wide : (int) Math.floorMod(wide, 1L << 8 * width);
    }

    private void lay(int at, int n, int v) {
        for (int k = 0; k < n; k++) {
            octet(at + k);
        }
        for (int k = 0; k < n; k++) {
            if (at + k < ram) {
                throw new Fault(8);
            }
            memory[at + k] = v >> 8 * (n - 1 - k) & 255;
        }
    }

    private void push(int v) {
        if (stack.size() == 40) {
            throw new Fault(5);
        }
        stack.add(v);
    }

    private void store(Row row, int k, int width, int v) {
        int at = row.numbers[k];
        switch (row.modes[k]) {
            case 0: break;
            case 5: case 6: case 7: lay(at, width, v); break;
            case 8: push(v); break;
            case 13: case 14: case 15: lay(ram + at, width, v); break;
            default:
                for (int i = 0; i < width; i++) {
                    if (at + i < 0 || at + i > 63) {
                        throw new Fault(7);
                    }
                    locals[at + i] = v >> 8 * (width - 1 - i) & 255;
                }
        }
    }

    private void end(int v) {
        done = 1;
        answer = v;
    }

    private void branch(boolean taken, int by) {
        if (taken && (by == 0 || by == 1)) {
            end(by);
        } else if (taken) {
            pc = pc + by - 2;
        }
    }

    private int search(int op, int[] l) {
        boolean indirect = (l[6] & 1) != 0;
        boolean place = (l[6] & 4) != 0;
        int size = l[1];
        boolean fits = indirect ? size >= 1 && size <= 64 : size == 1 || size == 2 || size == 4;
        if (!fits) {
            throw new Fault(9);
        }
        int[] key = new int[size];
        for (int k = 0; k < size; k++) {
            key[k] = indirect ? octet(l[0] + k) : l[0] >> 8 * (size - 1 - k) & 255;
        }
        int many = (int) Math.min(1024, l[4] & 0xFFFFFFFFL);
        int found = op == 0x150 ? line(l, key, many) : halves(l, key, many);
        if (found < 0) {
            return place ? -1 : 0;
        }
        return place ? found : l[2] + found * l[3];
    }

    private int[] keyOf(int[] l, int m, int size) {
        int[] key = new int[size];
        for (int k = 0; k < size; k++) {
            key[k] = octet(l[2] + m * l[3] + l[5] + k);
        }
        return key;
    }

    private int line(int[] l, int[] key, int many) {
        for (int m = 0; m < many; m++) {
            int[] one = keyOf(l, m, key.length);
            if (Arrays.equals(one, key)) {
                return m;
            }
            if ((l[6] & 2) != 0 && Arrays.stream(one).allMatch(v -> v == 0)) {
                return -1;
            }
        }
        return -1;
    }

    private int halves(int[] l, int[] key, int many) {
        int b = 0;
        int t = many;
        while (b < t) {
            int m = (b + t) / 2;
            int order = Arrays.compare(keyOf(l, m, key.length), key);
            if (order == 0) {
                return m;
            }
            if (order < 0) {
                b = m + 1;
            } else {
                t = m;
            }
        }
        return -1;
    }

    private List<Integer> upper(int n) {
        if (n < 0 || n > stack.size()) {
            throw new Fault(4);
        }
        return new ArrayList<>(stack.subList(stack.size() - n, stack.size()));
    }

    private void turn(int n, int by) {
        List<Integer> up = upper(n);
        java.util.Collections.rotate(up, by);
        for (int k = 0; k < n; k++) {
            stack.set(stack.size() - n + k, up.get(k));
        }
    }

    private void block(int n, int from, int to, boolean copies) {
        if (n < 0 || n > 1024) {
            throw new Fault(1);
        }
        int[] came = new int[n];
        for (int k = 0; k < n; k++) {
            came[k] = copies ? octet(from + k) : 0;
        }
        for (int k = 0; k < n; k++) {
            octet(to + k);
        }
        for (int k = 0; k < n; k++) {
            lay(to + k, 1, came[k]);
        }
    }

    private int divided(int a, int b, boolean left) {
        if (b == 0) {
            throw new Fault(6);
        }
        return (int) (left ? (long) a % b : (long) a / b);
    }

    private int act(int op, int[] l) {
        int a = l[0];
        int b = l[1];
        int last = l[7];
        long ua = a & 0xFFFFFFFFL;
        long ub = b & 0xFFFFFFFFL;
        boolean shifts = b >= 0 && b < 32;
        switch (op) {
            case 0x10: return (int) ((long) a + b);
            case 0x11: return (int) ((long) a - b);
            case 0x12: return (int) ((long) a * b);
            case 0x13: return divided(a, b, false);
            case 0x14: return divided(a, b, true);
            case 0x15: return 0 - a;
            case 0x18: return a & b;
            case 0x19: return a | b;
            case 0x1A: return a ^ b;
            case 0x1B: return -1 - a;
            case 0x1C: return shifts ? (int) (ua << b) : 0;
            case 0x1D: return shifts ? (int) Math.floorDiv((long) a, 1L << b) : a < 0 ? -1 : 0;
            case 0x1E: return shifts ? (int) (ua >> b) : 0;
            case 0x20: branch(true, last); return 0;
            case 0x22: branch(a == 0, last); return 0;
            case 0x23: branch(a != 0, last); return 0;
            case 0x24: branch(a == b, last); return 0;
            case 0x25: branch(a != b, last); return 0;
            case 0x26: branch(a < b, last); return 0;
            case 0x27: branch(!(a < b), last); return 0;
            case 0x28: branch(a > b, last); return 0;
            case 0x29: branch(!(a > b), last); return 0;
            case 0x2A: branch(ua < ub, last); return 0;
            case 0x2B: branch(!(ua < ub), last); return 0;
            case 0x2C: branch(ua > ub, last); return 0;
            case 0x2D: branch(!(ua > ub), last); return 0;
            case 0x31: end(a); return 0;
            case 0x120: end(0); return 0;
            case 0x104: pc = a; return 0;
            case 0x44: return (short) a;
            case 0x45: return (byte) a;
            case 0x48: return number(a + 4 * b, 4);
            case 0x49: return number(a + 2 * b, 2);
            case 0x4A: return octet(a + b);
            case 0x4B: return octet(a + Math.floorDiv(b, 8)) >> Math.floorMod(b, 8) & 1;
            case 0x4C: lay(a + 4 * b, 4, l[2]); return 0;
            case 0x4D: lay(a + 2 * b, 2, l[2]); return 0;
            case 0x4E: lay(a + b, 1, l[2]); return 0;
            case 0x4F: {
                int at = a + Math.floorDiv(b, 8);
                int bit = 1 << Math.floorMod(b, 8);
                int before = octet(at);
                lay(at, 1, before - (before & bit) + (l[2] != 0 ? bit : 0));
                return 0;
            }
            case 0x50: return stack.size();
            case 0x51:
                if (a < 0 || a >= stack.size()) {
                    throw new Fault(4);
                }
                return stack.get(stack.size() - 1 - a);
            case 0x52: turn(2, 1); return 0;
            case 0x53: turn(a, b); return 0;
            case 0x54:
                for (int v : upper(a)) {
                    push(v);
                }
                return 0;
            case 0x100: return a == 0 ? 196866 : a == 1 ? 65793 : a == 2 || a == 3 || a == 5 || a == 6 ? 1 : 0;
            case 0x150: case 0x151: return search(op, l);
            case 0x170: block(a, 0, b, false); return 0;
            case 0x171: block(a, b, l[2], true); return 0;
            default: return a;
        }
    }

    private void doRow() {
        Row row = rowAt(pc);
        int width = row.operation == 0x41 ? 2 : row.operation == 0x42 ? 1 : 4;
        int[] l = new int[8];
        int loads = row.form.replace("s", "").length();
        for (int k = 0; k < loads; k++) {
            l[k] = load(row, k, width);
            l[7] = l[k];
        }
        pc += row.size;
        int v = act(row.operation, l);
        if (row.form.endsWith("s")) {
            store(row, loads, width, v);
        }
        rows++;
    }

    int step() {
        fault = 0;
        if (done != 0) {
            return 0;
        }
        int[] memoryBefore = memory.clone();
        int[] localsBefore = locals.clone();
        List<Integer> stackBefore = new ArrayList<>(stack);
        int pcBefore = pc;
        try {
            doRow();
        } catch (Fault f) {
            memory = memoryBefore;
            locals = localsBefore;
            stack = stackBefore;
            pc = pcBefore;
            fault = f.kind;
            return -10 - f.kind;
        }
        return done != 0 ? 0 : 1;
    }
}
