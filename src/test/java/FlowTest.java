/** Promises 9 to 11: branches, ends, steps and runs. */
public final class FlowTest {
    private static final int MIN = Bench.MIN, MAX = Bench.MAX;

    public static void main(String[] args) {
        Bench b = new Bench();
        always(b);
        zeroTests(b);
        comparisons(b);
        branchLoads(b);
        jumps(b);
        ends(b);
        steps(b);
        runs(b);
        b.end();
    }

    private static void always(Bench b) {
        int[] places = {2, 3, 10, -1, -20, 500, MAX, MIN};
        for (int by : places) {
            GlulxModes x = new GlulxModes();
            int size = Bench.bytes(0x20, Bench.num(by)).length;
            b.due("branch by " + by, Bench.act(x, 0x20, Bench.num(by)), 1);
            b.due("pc", x.told(0), 16 + size + by - 2);
            b.due("done", x.told(1), 0);
            b.due("rows", x.told(6), 1);
        }
        for (int by = 0; by < 2; by++) {
            GlulxModes x = new GlulxModes();
            b.due("branch by " + by, Bench.act(x, 0x20, Bench.num(by)), 0);
            b.due("pc", x.told(0), 19);
            b.due("done", x.told(1), 1);
            b.due("answer", x.told(2), by);
            b.due("rows", x.told(6), 1);
        }
    }

    private static void zeroTests(Bench b) {
        int[] values = {0, 1, -1, MIN, 256};
        for (int v : values) {
            taken(b, 0x22, v == 0, Bench.num(v));
            taken(b, 0x23, v != 0, Bench.num(v));
        }
    }

    private static void comparisons(Bench b) {
        int[] values = {0, 1, -1, MIN, MAX, 7, MIN + 1, -2};
        for (int v : values) {
            for (int w : values) {
                long uv = v & 0xFFFFFFFFL;
                long uw = w & 0xFFFFFFFFL;
                boolean[] due = {v == w, v != w, (long) v - w < 0, (long) v - w >= 0, (long) v - w > 0,
                    (long) v - w <= 0, uv - uw < 0, uv - uw >= 0, uv - uw > 0, uv - uw <= 0};
                for (int k = 0; k < due.length; k++) {
                    taken(b, 0x24 + k, due[k], Bench.num(v), Bench.num(w));
                }
            }
        }
    }

    /** With the branch's own number behind the loads: by a distance, by 0 and by 1. */
    private static void taken(Bench b, int op, boolean isTaken, Bench.Operand... loads) {
        for (int by = 0; by <= 60; by += by == 1 ? 59 : 1) {
            Bench.Operand[] all = java.util.Arrays.copyOf(loads, loads.length + 1);
            all[loads.length] = Bench.num(by);
            int next = 16 + Bench.bytes(op, all).length;
            GlulxModes x = new GlulxModes();
            String call = Integer.toHexString(op) + " of " + loads[0].number + " by " + by;
            b.due(call, Bench.act(x, op, all), isTaken && by < 2 ? 0 : 1);
            b.due(call + " pc", x.told(0), isTaken && by >= 2 ? next + by - 2 : next);
            b.due(call + " done", x.told(1), isTaken && by < 2 ? 1 : 0);
            b.due(call + " answer", x.told(2), isTaken && by < 2 ? by : 0);
        }
    }

    private static void branchLoads(Bench b) {
        GlulxModes x = Bench.pushed(9, 30, 5, 4);
        b.due("a branch not taken", Bench.act(x, 0x24, Bench.TOP, Bench.TOP, Bench.TOP), 1);
        b.same("takes its place off too", Bench.pile(x), "9");
        b.due("pc", x.told(0), 19);
        x = Bench.pushed(9, 30, 4, 4);
        b.due("a branch", Bench.act(x, 0x24, Bench.TOP, Bench.TOP, Bench.TOP), 1);
        b.due("pc", x.told(0), 19 + 28);
        x = new GlulxModes();
        b.due("not taken, place is outside", Bench.act(x, 0x22, Bench.num(1), Bench.mem(1022)), Bench.OUTSIDE);
        b.due("pc stays", x.told(0), 16);
        x = Bench.pushed(0);
        b.due("not taken, place is under", Bench.act(x, 0x23, Bench.TOP, Bench.TOP), Bench.UNDER);
        b.same("stack stays", Bench.pile(x), "0");
    }

    private static void jumps(Bench b) {
        int[] places = {0, 1, 2, 700, 1024, -1, MIN, MAX};
        for (int at : places) {
            GlulxModes x = new GlulxModes();
            b.due("jump to " + at, Bench.act(x, 0x104, Bench.num(at)), 1);
            b.due("pc", x.told(0), at);
            b.due("done", x.told(1), 0);
            boolean there = at >= 0 && at < 1024;
            b.due("the next", x.step(), there ? 1 : Bench.OUTSIDE);
        }
    }

    private static void ends(Bench b) {
        int[] answers = {0, 1, -1, 70000, MIN};
        for (int v : answers) {
            GlulxModes x = new GlulxModes();
            b.due("end with " + v, Bench.act(x, 0x31, Bench.num(v)), 0);
            b.due("done", x.told(1), 1);
            b.due("answer", x.told(2), v);
            b.due("pc", x.told(0), 16 + Bench.bytes(0x31, Bench.num(v)).length);
            b.due("rows", x.told(6), 1);
            b.due("quit", Bench.act(x, 0x120), 0);
            b.due("done", x.told(1), 1);
            b.due("answer", x.told(2), 0);
            b.due("pc", x.told(0), 18);
            b.due("rows", x.told(6), 2);
        }
    }

    private static void steps(Bench b) {
        GlulxModes x = new GlulxModes();
        Bench.lay(x, 16, 0x31, Bench.num(5));
        x.go(15);
        b.due("step", x.step(), 1);
        b.due("it ends", x.step(), 0);
        b.due("was done", x.step(), 0);
        b.due("run", x.run(10), 0);
        b.due("rows", x.told(6), 2);
        b.due("pc", x.told(0), 18 + 1);
        b.due("answer", x.told(2), 5);
        b.due("go on", x.go(16), 19);
        b.due("answer stays", x.told(2), 5);
        b.due("again", x.step(), 0);
        b.due("rows", x.told(6), 3);
        x.go(2000);
        b.due("outside", x.step(), -11);
        b.due("fault", x.told(5), 1);
        b.due("not done", x.told(1), 0);
        b.due("answer stays", x.told(2), 5);
        x.go(30);
        b.due("step", x.step(), 1);
        b.due("no fault", x.told(5), 0);
    }

    private static void runs(Bench b) {
        GlulxModes x = new GlulxModes();
        int[] wrong = {-1, 2001, MIN, MAX};
        for (int n : wrong) {
            b.due("run " + n, x.run(n), -1);
        }
        b.due("nothing was done", x.told(6), 0);
        b.due("run 0", x.run(0), 0);
        b.due("pc", x.told(0), 0);
        b.due("run 1000", x.run(1000), 1000);
        b.due("run to the end of memory", x.run(2000), 24);
        b.due("fault", x.told(5), 1);
        b.due("pc", x.told(0), 1024);
        b.due("rows", x.told(6), 1024);
        b.due("run again", x.run(5), 0);
        b.due("fault", x.told(5), 1);
        Bench.lay(x, 40, 0x20, Bench.num(-1));
        x.go(40);
        b.due("round and round", x.run(2000), 2000);
        b.due("fault", x.told(5), 0);
        b.due("pc", x.told(0), 40);
        b.due("rows", x.told(6), 3024);
        Bench.lay(x, 43, 0x31, Bench.num(8));
        x.go(42 - 2 + 3);
        b.due("an end counts", x.run(2000), 1);
        b.due("done", x.told(1), 1);
        b.due("run when done", x.run(2000), 0);
        b.due("fault", x.told(5), 0);
        countdown(b);
    }

    /** A loop that adds up 10, 9, .. 1. */
    private static void countdown(Bench b) {
        GlulxModes x = new GlulxModes();
        int loop = Bench.lay(x, 100, 0x40, Bench.num(10), Bench.loc(0));
        int at = Bench.lay(x, loop, 0x10, Bench.loc(4), Bench.loc(0), Bench.loc(4));
        at = Bench.lay(x, at, 0x11, Bench.loc(0), Bench.num(1), Bench.loc(0));
        int size = Bench.bytes(0x23, Bench.loc(0), Bench.num(-9)).length;
        at = Bench.lay(x, at, 0x23, Bench.loc(0), Bench.num(loop - at - size + 2));
        Bench.lay(x, at, 0x31, Bench.loc(4));
        x.go(100);
        b.due("rows of the loop", x.run(2000), 1 + 30 + 1);
        b.due("its sum", x.told(2), 55);
    }
}
