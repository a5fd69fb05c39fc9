/** Terms: a row that meets a fault changes nothing, and of several the first in order is told. */
public final class FaultTest {
    public static void main(String[] args) {
        Bench b = new Bench();
        nothingChanges(b);
        firstInOrder(b);
        runsStop(b);
        ownBytes(b);
        b.end();
    }

    private static void nothingChanges(Bench b) {
        Bench.Operand t = Bench.TOP;
        Bench.Operand n = Bench.NIL;
        unchanged(b, "mode", Bench.MODE, 0x10, t, t, Bench.as(4, 0));
        unchanged(b, "under", Bench.UNDER, 0x150, t, t, t, t, t, t, t, t);
        unchanged(b, "zero", Bench.ZERO, 0x13, t, n, t);
        unchanged(b, "zero", Bench.ZERO, 0x14, t, n, t);
        unchanged(b, "local load", Bench.LOCAL, 0x10, t, Bench.loc(61), t);
        unchanged(b, "local store", Bench.LOCAL, 0x10, t, t, Bench.loc(61));
        unchanged(b, "fixed", Bench.FIXED, 0x10, t, t, Bench.mem(200));
        unchanged(b, "outside load", Bench.OUTSIDE, 0x10, t, Bench.mem(1021), t);
        unchanged(b, "outside store", Bench.OUTSIDE, 0x10, t, t, Bench.mem(1021));
        unchanged(b, "array load", Bench.OUTSIDE, 0x48, t, Bench.num(-1000), t);
        unchanged(b, "array store", Bench.FIXED, 0x4C, t, n, t);
        unchanged(b, "bit store", Bench.FIXED, 0x4F, t, n, t);
        unchanged(b, "peek", Bench.UNDER, 0x51, Bench.num(4), t);
        unchanged(b, "turn", Bench.UNDER, 0x53, Bench.num(4), t);
        unchanged(b, "repeat", Bench.UNDER, 0x54, Bench.num(5));
        unchanged(b, "zeros", Bench.FIXED, 0x170, t, t);
        unchanged(b, "copy", Bench.FIXED, 0x171, t, t, t);
        unchanged(b, "key", Bench.KEY, 0x150, t, Bench.num(3), n, n, n, n, n, t);
        unchanged(b, "key", Bench.KEY, 0x151, t, n, n, n, n, n, t, t);
        unchanged(b, "search outside", Bench.OUTSIDE, 0x150, t, Bench.num(1), Bench.num(-1), n, Bench.num(1), n, n, t);
        unchanged(b, "branch", Bench.OUTSIDE, 0x24, t, t, Bench.mem(1021));
    }

    private static void unchanged(Bench b, String name, int fault, int op, Bench.Operand... operands) {
        GlulxModes x = Bench.pushed(14, 13, 12, 11);
        Bench.act(x, 0x40, Bench.num(0x01020304), Bench.loc(60));
        Bench.act(x, 0x31, Bench.num(-33));
        x.read(300);
        x.lay(1020, 4, 0x7172737475767778L);
        x.lay(256, 4, 0x41424344L);
        b.due(name, Bench.act(x, op, operands), fault);
        b.same(name + " stack", Bench.pile(x), "14 13 12 11");
        b.due(name + " pc", x.told(0), 16);
        b.due(name + " done", x.told(1), 0);
        b.due(name + " answer", x.told(2), -33);
        b.due(name + " ram", x.told(4), 256);
        b.due(name + " fault", x.told(5), -10 - fault);
        b.due(name + " rows", x.told(6), 2);
        b.due(name + " local", x.local(60), 0x01020304);
        b.due(name + " memory", Bench.word(x, 1020), 0x75767778);
        b.due(name + " memory", Bench.word(x, 256), 0x41424344);
        b.due(name + " memory", Bench.word(x, 200), 0);
        b.due(name + " row", x.row(0), 0);
        b.due(name + " again", x.step(), fault);
        b.same(name + " stack", Bench.pile(x), "14 13 12 11");
    }

    private static void firstInOrder(Bench b) {
        Bench.Operand badLocal = Bench.loc(61);
        Bench.Operand badPlace = Bench.mem(1021);
        Bench.Operand t = Bench.TOP;
        GlulxModes x = new GlulxModes();
        b.due("under, local", Bench.act(x, 0x10, t, badLocal, badPlace), Bench.UNDER);
        b.due("local, under", Bench.act(x, 0x10, badLocal, t, badPlace), Bench.LOCAL);
        b.due("outside, local", Bench.act(x, 0x10, badPlace, badLocal, t), Bench.OUTSIDE);
        b.due("outside, zero", Bench.act(x, 0x13, badPlace, Bench.NIL, t), Bench.OUTSIDE);
        b.due("zero, fixed", Bench.act(x, 0x13, Bench.NIL, Bench.NIL, Bench.mem(0)), Bench.ZERO);
        b.due("mode, under", Bench.act(x, 0x10, t, t, Bench.as(12, 0)), Bench.MODE);
        b.due("mode, local", Bench.act(x, 0x40, badLocal, Bench.num(1)), Bench.MODE);
        b.due("array outside, store", Bench.act(x, 0x4A, Bench.num(-1), Bench.NIL, badLocal), Bench.OUTSIDE);
        b.due("under, local", Bench.act(x, 0x51, Bench.NIL, badLocal), Bench.UNDER);
    }

    private static void runsStop(Bench b) {
        GlulxModes x = new GlulxModes();
        int at = Bench.lay(x, 20, 0x40, Bench.num(7), Bench.TOP);
        at = Bench.lay(x, at, 0x15, Bench.TOP, Bench.TOP);
        Bench.lay(x, at, 0x10, Bench.TOP, Bench.TOP, Bench.TOP);
        x.go(20);
        b.due("two without a fault", x.run(10), 2);
        b.due("fault", x.told(5), 4);
        b.due("pc", x.told(0), at);
        b.due("rows", x.told(6), 2);
        b.same("stack", Bench.pile(x), "-7");
        x.push(10);
        b.due("then it goes on", x.run(1), 1);
        b.due("no fault", x.told(5), 0);
        b.same("stack", Bench.pile(x), "3");
    }

    /** A row may lay its own bytes anew; it was read before. */
    private static void ownBytes(Bench b) {
        GlulxModes x = new GlulxModes();
        x.ram(0);
        b.due("zero itself", Bench.act(x, 0x170, Bench.num(64), Bench.NIL), 1);
        b.due("pc", x.told(0), 20);
        b.due("gone", x.octet(16), 0);
        b.due("copy onto itself", Bench.act(x, 0x40, Bench.num(-1), Bench.mem(16)), 1);
        b.due("pc", x.told(0), 20);
        b.due("laid", x.octet(16), 255);
    }
}
