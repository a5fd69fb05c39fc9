import java.util.List;
import java.util.Random;

/** Random rows, done by the class and by the Model; the seeds are fixed, so that every run is the same. */
public final class ModelTest {
    private static final List<Integer> OPERATIONS = Model.operations();
    private static final int[] NUMBERS = {0, 1, -1, 2, 3, 4, 5, 7, 8, 31, 32, 39, 40, 41, 59, 60, 61, 63, 64, 65, 255,
        256, 257, 512, 1000, 1020, 1021, 1022, 1023, 1024, 1025, -2, -4, -256, -257, Bench.MIN, Bench.MAX, 0x40000000};
    private static final int PLACES = 5000;

    private final Bench bench = new Bench();
    private final int[] faults = new int[10];
    private final int[] doneRows = new int[0x200];
    private GlulxModes x;
    private Model model;
    private Random random;
    private int calls;

    public static void main(String[] args) {
        ModelTest test = new ModelTest();
        for (int seed = 0; seed < PLACES; seed++) {
            test.one(seed);
        }
        test.everythingWasMet();
        test.bench.end();
    }

    private void one(int seed) {
        random = new Random(seed);
        x = new GlulxModes();
        model = new Model();
        calls = 0;
        prepare();
        for (int turn = 0; turn < 24; turn++) {
            turn(seed, turn);
        }
        compare("seed " + seed);
    }

    private void lay(int at, int v) {
        calls++;
        x.lay(at, 1, v);
        model.memory[at] = v & 255;
    }

    private void prepare() {
        int ram = random.nextInt(4) == 0 ? random.nextInt(1025) : random.nextBoolean() ? 256 : 0;
        x.ram(ram);
        model.ram = ram;
        int count = random.nextInt(3) == 0 ? 38 + random.nextInt(3) : random.nextInt(9);
        for (int k = 0; k < count; k++) {
            push();
        }
        // Tables with few values, so that searches find something.
        int few = 1 + random.nextInt(4);
        for (int k = 0; k < 40; k++) {
            lay(512 + k, random.nextInt(few));
        }
        for (int k = 0; k < 8; k++) {
            lay(1016 + k, random.nextInt(256));
        }
        calls += 1 + count;
    }

    private void push() {
        int v = number();
        if (model.stack.size() < 40) {
            model.stack.add(v);
        }
        x.push(v);
        calls++;
    }

    private int number() {
        switch (random.nextInt(5)) {
            case 0: return random.nextInt();
            case 1: return random.nextInt(70);
            case 2: return 256 + random.nextInt(768);
            default: return NUMBERS[random.nextInt(NUMBERS.length)];
        }
    }

    private int near() {
        switch (random.nextInt(6)) {
            case 0: return number();
            case 1: return 512 + random.nextInt(40);
            case 2: return 1016 + random.nextInt(9);
            default: return 256 + random.nextInt(768);
        }
    }

    private Bench.Operand operand(int operation, int k, boolean isStore) {
        int pick = random.nextInt(40);
        if (pick == 0) {
            return Bench.as(random.nextInt(16), number());
        }
        if (!isStore && (operation == 0x150 || operation == 0x151) && pick < 36) {
            return searchOperand(k);
        }
        if (!isStore && operation >= 0x170 && pick < 30) {
            return Bench.num(k == 0 ? random.nextInt(40) - 2 : near());
        }
        if (pick < 12) {
            return isStore ? Bench.TOP : Bench.num(number());
        }
        if (pick < 18) {
            return Bench.TOP;
        }
        if (pick < 24) {
            return Bench.loc(random.nextInt(8) == 0 ? number() : random.nextInt(64));
        }
        if (pick < 30) {
            return Bench.mem(near());
        }
        if (pick < 34) {
            return Bench.ofRam(near() - model.ram);
        }
        return pick < 36 || isStore ? Bench.NIL : Bench.num(near());
    }

    private Bench.Operand searchOperand(int k) {
        switch (k) {
            case 0: return Bench.num(random.nextBoolean() ? 512 + random.nextInt(40) : random.nextInt(4));
            case 1: return Bench.num(random.nextInt(4) == 0 ? random.nextInt(67) - 1 : 1 + random.nextInt(4));
            case 2: return Bench.num(random.nextInt(5) == 0 ? near() : 512 + random.nextInt(20));
            case 3: return Bench.num(random.nextInt(8) == 0 ? number() : random.nextInt(6) - 1);
            case 4: return Bench.num(random.nextInt(8) == 0 ? number() : random.nextInt(30));
            case 5: return Bench.num(random.nextInt(8) == 0 ? number() : random.nextInt(4));
            default: return Bench.num(random.nextInt(6) == 0 ? number() : random.nextInt(8));
        }
    }

    private void turn(int seed, int turn) {
        int operation = OPERATIONS.get(random.nextInt(OPERATIONS.size()));
        String form = Model.form(operation);
        Bench.Operand[] operands = new Bench.Operand[form.length()];
        for (int k = 0; k < operands.length; k++) {
            operands[k] = operand(operation, k, form.charAt(k) == 's');
        }
        byte[] bytes = Bench.bytes(operation, operands);
        if (random.nextInt(30) == 0) {
            bytes[0] = (byte) random.nextInt();
        }
        int at = random.nextInt(20) == 0 ? 1024 - random.nextInt(bytes.length + 1) : random.nextInt(200);
        for (int k = 0; k < bytes.length && at + k < 1024; k++) {
            model.memory[at + k] = bytes[k] & 255;
        }
        int there = Math.min(bytes.length, 1024 - at);
        Bench.lay(x, at, java.util.Arrays.copyOf(bytes, there));
        String name = "seed " + seed + " turn " + turn + " operation " + Integer.toHexString(operation);
        if (random.nextInt(8) == 0) {
            readRow(name, at);
        }
        bench.due(name + " go", x.go(at), model.pc);
        model.pc = at;
        model.done = 0;
        int want = model.step();
        bench.due(name + " step", x.step(), want);
        if (want < 0) {
            faults[-10 - want]++;
        } else {
            doneRows[operation]++;
        }
        bench.due(name + " pc", x.told(0), model.pc);
        bench.due(name + " count", x.told(3), model.stack.size());
        bench.due(name + " top", x.stack(0), model.stack.isEmpty() ? 0 : model.stack.get(model.stack.size() - 1));
        if (random.nextInt(3) == 0) {
            push();
        }
        calls += 9;
    }

    private void readRow(String name, int at) {
        Model.Row row = model.read(at);
        bench.due(name + " read", x.read(at), row.size);
        if (row.size < 0) {
            return;
        }
        bench.due(name + " row 0", x.row(0), row.operation);
        bench.due(name + " row 1", x.row(1), row.modes.length);
        for (int k = 0; k < row.modes.length; k++) {
            bench.due(name + " mode " + k, x.row(10 + k), row.modes[k]);
            bench.due(name + " number " + k, x.row(20 + k), row.numbers[k]);
        }
        calls += 3 + 2 * row.modes.length;
    }

    private void compare(String name) {
        int[] told = {model.pc, model.done, model.answer, model.stack.size(), model.ram, model.fault, model.rows};
        for (int k = 0; k < told.length; k++) {
            bench.due(name + " told " + k, x.told(k), told[k]);
        }
        for (int k = 0; k < model.stack.size(); k++) {
            bench.due(name + " stack " + k, x.stack(k), model.stack.get(model.stack.size() - 1 - k));
        }
        for (int at = 0; at < 64; at += 4) {
            int v = 0;
            for (int k = 0; k < 4; k++) {
                v = v << 8 | model.locals[at + k];
            }
            bench.due(name + " local " + at, x.local(at), v);
        }
        calls += 7 + model.stack.size() + 16;
        int at = 0;
        // An object is good for 512 calls; bytes that are not 0 are looked at before others.
        for (; at < 1024 && calls < 480; at++) {
            if (at >= 256 && model.memory[at] != 0) {
                bench.due(name + " octet " + at, x.octet(at), model.memory[at]);
                calls++;
            }
        }
        for (; calls < 510; calls++) {
            int some = random.nextInt(1024);
            bench.due(name + " octet " + some, x.octet(some), model.memory[some]);
        }
    }

    private void everythingWasMet() {
        for (int k = 1; k < 10; k++) {
            bench.due("fault " + k + " was met", faults[k] > 20 ? 1 : 0, 1);
        }
        for (int operation : OPERATIONS) {
            bench.due("operation " + operation + " was done", doneRows[operation] > 20 ? 1 : 0, 1);
        }
        bench.due("few calls", calls <= 512 ? 1 : 0, 1);
    }
}
