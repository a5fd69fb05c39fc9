import java.util.ArrayList;
import java.util.List;
import java.util.Random;

/**
 * All calls of the face in any order, with arguments of any kind, on small programs of many rows: each answer is held
 * against the Model's. The seeds are fixed, so that every run is the same.
 */
public final class CallsTest {
    private static final List<Integer> OPERATIONS = Model.operations();
    private static final int[] ODD = {Bench.MIN, Bench.MAX, -1, -2, -10, 0, 1, 2, 7, 8, 9, 10, 19, 20, 27, 28, 39, 40, 41,
        60, 61, 63, 64, 255, 256, 1023, 1024, 1025, 2000, 2001, Bench.MAX - 3, Bench.MIN + 3};
    private static final int SEEDS = 1500;
    private static final int MOST_CALLS = 512;

    private final Bench bench = new Bench();
    private final List<Integer> starts = new ArrayList<>();
    private GlulxModes x;
    private Model model;
    private Model.Row latest;
    private Random random;
    private String name;
    private int calls;
    private int longRuns;
    private int ends;

    public static void main(String[] args) {
        CallsTest test = new CallsTest();
        for (int seed = 0; seed < SEEDS; seed++) {
            test.one(seed);
        }
        test.bench.due("runs of more than twenty rows, some", test.longRuns > 100 ? 1 : 0, 1);
        test.bench.due("runs that ended, some", test.ends > 100 ? 1 : 0, 1);
        test.bench.end();
    }

    private void one(int seed) {
        random = new Random(seed);
        x = new GlulxModes();
        model = new Model();
        latest = null;
        calls = 0;
        writeProgram();
        while (calls < MOST_CALLS) {
            name = "seed " + seed + " call " + calls + " ";
            someCall(random.nextInt(24));
        }
    }

    private void due(String call, int got, int want) {
        calls++;
        bench.due(name + call, got, want);
    }

    private void writeProgram() {
        name = "program ";
        starts.clear();
        int at = 0;
        for (int k = 0; k < 16; k++) {
            starts.add(at);
            byte[] bytes = someRow(at);
            for (int from = 0; from < bytes.length; from += 8) {
                layBytes(at + from, bytes, from, Math.min(8, bytes.length - from));
            }
            at += bytes.length;
        }
    }

    private void layBytes(int at, byte[] bytes, int from, int n) {
        long v = 0;
        for (int k = 0; k < n; k++) {
            v = v << 8 | bytes[from + k] & 255;
        }
        lay(at, n, v);
    }

    private byte[] someRow(int at) {
        int operation = OPERATIONS.get(random.nextInt(OPERATIONS.size()));
        String form = Model.form(operation);
        Bench.Operand[] operands = new Bench.Operand[form.length()];
        for (int k = 0; k < operands.length; k++) {
            operands[k] = form.charAt(k) == 's' ? store() : load();
        }
        boolean branches = operation >= 0x20 && operation <= 0x2D;
        if (branches) {
            operands[operands.length - 1] = Bench.as(2, 0);
            int next = at + Bench.bytes(operation, operands).length;
            operands[operands.length - 1] = Bench.as(2, branchFrom(next));
        }
        if (operation == 0x104) {
            operands[0] = Bench.num(starts.get(random.nextInt(starts.size())));
        }
        return Bench.bytes(operation, operands);
    }

    private int branchFrom(int next) {
        switch (random.nextInt(4)) {
            case 0: return random.nextInt(3);
            case 1: return 2 + random.nextInt(12);
            default: return starts.get(random.nextInt(starts.size())) - next + 2;
        }
    }

    private Bench.Operand load() {
        switch (random.nextInt(10)) {
            case 0: return Bench.NIL;
            case 1: return Bench.TOP;
            case 2: case 3: return Bench.loc(4 * random.nextInt(16));
            case 4: return Bench.mem(random.nextInt(1021));
            case 5: return Bench.ofRam(random.nextInt(300));
            case 6: return Bench.num(256 + random.nextInt(768));
            case 7: return Bench.num(random.nextInt(200) - 100);
            default: return Bench.num(random.nextInt(5));
        }
    }

    private Bench.Operand store() {
        switch (random.nextInt(8)) {
            case 0: return Bench.NIL;
            case 1: return Bench.loc(random.nextInt(64));
            case 2: case 3: return Bench.loc(4 * random.nextInt(16));
            case 4: return Bench.mem(random.nextInt(1024));
            case 5: return Bench.ofRam(random.nextInt(300));
            default: return Bench.TOP;
        }
    }

    /** A number of 0 .. most, or an odd one. */
    private int about(int most) {
        int pick = random.nextInt(16);
        if (pick == 0) {
            return random.nextInt();
        }
        return pick < 4 ? ODD[random.nextInt(ODD.length)] : random.nextInt(most + 1);
    }

    private int someStart() {
        return random.nextInt(4) == 0 ? about(1023) : starts.get(random.nextInt(starts.size()));
    }

    private void someCall(int which) {
        switch (which) {
            case 0: lay(about(1023), about(8), random.nextLong()); break;
            case 1: ram(random.nextInt(3) == 0 ? about(1024) : 256 + random.nextInt(200)); break;
            case 2: case 3: case 4: go(someStart()); break;
            case 5: case 6: push(about(1023)); break;
            case 7: clear(); break;
            case 8: read(someStart()); break;
            case 9: case 10: case 11: row(about(30)); break;
            case 12: case 13: case 14: step(); break;
            case 15: case 16: case 17: run(random.nextInt(40) == 0 ? about(2000) : random.nextInt(60)); break;
            case 18: case 19: case 20: told(about(7)); break;
            case 21: octet(about(1023)); break;
            case 22: local(about(60)); break;
            default: stack(about(40)); break;
        }
    }

    private void lay(int at, int n, long v) {
        boolean fits = n >= 1 && n <= 8 && at >= 0 && (long) at + n <= 1024;
        for (int k = 0; fits && k < n; k++) {
            model.memory[at + k] = (int) (v >> 8 * (n - 1 - k)) & 255;
        }
        due("lay(" + at + ", " + n + ", " + v + ")", x.lay(at, n, v), fits ? 1 : -1);
    }

    private void ram(int at) {
        boolean fits = at >= 0 && at <= 1024;
        due("ram(" + at + ")", x.ram(at), fits ? model.ram : -1);
        model.ram = fits ? at : model.ram;
    }

    private void go(int at) {
        due("go(" + at + ")", x.go(at), model.pc);
        model.pc = at;
        model.done = 0;
    }

    private void push(int v) {
        boolean full = model.stack.size() == 40;
        if (!full) {
            model.stack.add(v);
        }
        due("push(" + v + ")", x.push(v), full ? -2 : model.stack.size());
    }

    private void clear() {
        due("clear()", x.clear(), model.stack.size());
        model.stack.clear();
        model.locals = new int[64];
    }

    private void read(int at) {
        Model.Row row = model.read(at);
        latest = row.size < 0 ? latest : row;
        due("read(" + at + ")", x.read(at), row.size);
    }

    private void row(int what) {
        due("row(" + what + ")", x.row(what), rowDue(what));
    }

    private int rowDue(int what) {
        if (what < 0 || what > 1 && what < 10) {
            return -1;
        }
        if (latest == null) {
            return -2;
        }
        if (what < 2) {
            return what == 0 ? latest.operation : latest.modes.length;
        }
        int[] told = what < 20 ? latest.modes : latest.numbers;
        int k = what < 20 ? what - 10 : what - 20;
        return k < told.length ? told[k] : -2;
    }

    private void step() {
        due("step()", x.step(), model.step());
    }

    private void run(int n) {
        due("run(" + n + ")", x.run(n), runDue(n));
    }

    private int runDue(int n) {
        if (n < 0 || n > 2000) {
            return -1;
        }
        int before = model.rows;
        model.fault = 0;
        for (int k = 0; k < n && model.done == 0 && model.fault == 0; k++) {
            model.step();
        }
        int did = model.rows - before;
        longRuns += did > 20 ? 1 : 0;
        ends += did > 0 ? model.done : 0;
        return did;
    }

    private void told(int what) {
        int[] told = {model.pc, model.done, model.answer, model.stack.size(), model.ram, model.fault, model.rows};
        due("told(" + what + ")", x.told(what), what >= 0 && what < told.length ? told[what] : -1);
    }

    private void octet(int at) {
        due("octet(" + at + ")", x.octet(at), at >= 0 && at < 1024 ? model.memory[at] : -1);
    }

    private void local(int at) {
        int v = 0;
        for (int k = 0; at >= 0 && at <= 60 && k < 4; k++) {
            v = v << 8 | model.locals[at + k];
        }
        due("local(" + at + ")", x.local(at), v);
    }

    private void stack(int k) {
        int count = model.stack.size();
        due("stack(" + k + ")", x.stack(k), k >= 0 && k < count ? model.stack.get(count - 1 - k) : 0);
    }
}
