/** Promise 9, modes, copies of three widths and arrays: operations 40 to 4F. */
public final class MoveTest {
    private static final int MIN = Bench.MIN, MAX = Bench.MAX;
    private static final int[] WIDTHS = {4, 2, 1};

    public static void main(String[] args) {
        Bench b = new Bench();
        loads(b);
        narrow(b);
        memoryLoads(b);
        localLoads(b);
        memoryStores(b);
        localStores(b);
        pileStores(b);
        arrayLoads(b);
        arrayStores(b);
        bits(b);
        b.end();
    }

    private static void loads(Bench b) {
        b.due("mode 0", Bench.value(0x40, Bench.NIL), 0);
        b.due("mode 1", Bench.value(0x40, Bench.as(1, 0x80)), -128);
        b.due("mode 2", Bench.value(0x40, Bench.as(2, 0x8000)), -32768);
        b.due("mode 2", Bench.value(0x40, Bench.as(2, 0x0102)), 0x0102);
        b.due("mode 3", Bench.value(0x40, Bench.as(3, 0x80000001)), 0x80000001);
        GlulxModes x = new GlulxModes();
        x.lay(200, 4, 0x81828384L);
        x.lay(300, 4, 0x91929394L);
        x.lay(456, 4, 0xA1A2A3A4L);
        int[][] modes = {{5, 200, 0x81828384}, {6, 200, 0x81828384}, {7, 200, 0x81828384}, {6, 300, 0x91929394},
            {7, 300, 0x91929394}, {13, 44, 0x91929394}, {13, 200, 0xA1A2A3A4}, {14, 200, 0xA1A2A3A4},
            {15, 200, 0xA1A2A3A4}, {15, -56, 0x81828384}};
        for (int[] row : modes) {
            b.due("mode " + row[0], Bench.act(x, 0x40, Bench.as(row[0], row[1]), Bench.TOP), 1);
            b.due("mode " + row[0] + " at " + row[1], x.stack(0), row[2]);
        }
        x.ram(300);
        b.due("ram moved", Bench.act(x, 0x40, Bench.as(13, 0), Bench.TOP), 1);
        b.due("at ram", x.stack(0), 0x91929394);
    }

    private static void narrow(Bench b) {
        b.due("copys of a number", Bench.value(0x41, Bench.num(0x12348765)), 0x8765);
        b.due("copys of -1", Bench.value(0x41, Bench.num(-1)), 0xFFFF);
        b.due("copyb of a number", Bench.value(0x42, Bench.num(0x12348795)), 0x95);
        b.due("copyb of -1", Bench.value(0x42, Bench.num(-1)), 0xFF);
        b.due("copyb of 0", Bench.value(0x42, Bench.NIL), 0);
        GlulxModes x = Bench.pushed(0x12348795, 0x12348795, 0x12348795);
        Bench.act(x, 0x42, Bench.TOP, Bench.loc(0));
        Bench.act(x, 0x41, Bench.TOP, Bench.loc(4));
        Bench.act(x, 0x40, Bench.TOP, Bench.loc(8));
        b.due("copyb to locals", x.local(0), 0x95000000);
        b.due("copys to locals", x.local(4), 0x87950000);
        b.due("copy to locals", x.local(8), 0x12348795);
        Bench.act(x, 0x42, Bench.loc(8), Bench.TOP);
        b.due("copyb from locals", x.stack(0), 0x12);
        Bench.act(x, 0x41, Bench.loc(10), Bench.TOP);
        b.due("copys from locals", x.stack(0), 0x8795);
        Bench.act(x, 0x42, Bench.loc(11), Bench.TOP);
        b.due("copyb from locals has no sign", x.stack(0), 0x95);
        x.lay(400, 8, 0x8182838485868788L);
        Bench.act(x, 0x41, Bench.mem(401), Bench.TOP);
        b.due("copys from memory", x.stack(0), 0x8283);
        Bench.act(x, 0x42, Bench.mem(401), Bench.TOP);
        b.due("copyb from memory", x.stack(0), 0x82);
        Bench.act(x, 0x41, Bench.mem(400), Bench.mem(404));
        b.due("copys to memory", Bench.word(x, 404), 0x81828788);
        Bench.act(x, 0x42, Bench.mem(403), Bench.ofRam(150));
        b.due("copyb to memory", Bench.word(x, 404), 0x81828488);
    }

    private static void memoryLoads(Bench b) {
        for (int k = 0; k < 3; k++) {
            int last = 1024 - WIDTHS[k];
            GlulxModes x = new GlulxModes();
            x.lay(1020, 4, 0x81828384L);
            int want = new int[] {0x81828384, 0x8384, 0x84}[k];
            b.due("last in memory", Bench.act(x, 0x40 + k, Bench.mem(last), Bench.TOP), 1);
            b.due("value", x.stack(0), want);
            b.due("last, by ram", Bench.act(x, 0x40 + k, Bench.ofRam(last - 256), Bench.TOP), 1);
            b.due("value", x.stack(0), want);
            int[] outside = {last + 1, 1024, 65535, -1, MAX, MIN, MAX - 3};
            for (int at : outside) {
                b.due("load at " + at, Bench.act(x, 0x40 + k, Bench.as(7, at), Bench.NIL), Bench.OUTSIDE);
                b.due("by ram " + at, Bench.act(x, 0x40 + k, Bench.as(15, at - 256), Bench.NIL), Bench.OUTSIDE);
            }
            b.due("first, by ram", Bench.act(x, 0x40 + k, Bench.as(15, -256), Bench.NIL), 1);
        }
    }

    private static void localLoads(Bench b) {
        for (int k = 0; k < 3; k++) {
            int last = 64 - WIDTHS[k];
            GlulxModes x = new GlulxModes();
            Bench.act(x, 0x40, Bench.num(0x81828384), Bench.loc(60));
            for (int mode = 9; mode <= 11; mode++) {
                b.due("last local", Bench.act(x, 0x40 + k, Bench.as(mode, last), Bench.TOP), 1);
                b.due("value", x.stack(0), new int[] {0x81828384, 0x8384, 0x84}[k]);
                b.due("none", Bench.act(x, 0x40 + k, Bench.as(mode, last + 1), Bench.TOP), Bench.LOCAL);
                b.due("none", Bench.act(x, 0x40 + k, Bench.as(mode, 255), Bench.TOP), Bench.LOCAL);
                b.due("none", Bench.act(x, 0x40 + k, Bench.as(mode, -1), Bench.TOP), Bench.LOCAL);
            }
            b.due("none", Bench.act(x, 0x40 + k, Bench.as(11, MAX), Bench.TOP), Bench.LOCAL);
            b.due("none", Bench.act(x, 0x40 + k, Bench.as(11, MIN), Bench.TOP), Bench.LOCAL);
            b.due("count", x.told(3), 3);
        }
    }

    private static void memoryStores(Bench b) {
        for (int k = 0; k < 3; k++) {
            int last = 1024 - WIDTHS[k];
            GlulxModes x = new GlulxModes();
            b.due("at ram", Bench.act(x, 0x40 + k, Bench.num(0x11223344), Bench.mem(256)), 1);
            b.due("bytes", Bench.word(x, 256), new int[] {0x11223344, 0x33440000, 0x44000000}[k]);
            b.due("the last", Bench.act(x, 0x40 + k, Bench.num(0x11223344), Bench.mem(last)), 1);
            b.due("byte", x.octet(1023), 0x44);
            b.due("below ram", Bench.act(x, 0x40 + k, Bench.num(-1), Bench.mem(255)), Bench.FIXED);
            b.due("below ram", Bench.act(x, 0x40 + k, Bench.num(-1), Bench.as(15, -1)), Bench.FIXED);
            b.due("place 0", Bench.act(x, 0x40 + k, Bench.num(-1), Bench.mem(0)), Bench.FIXED);
            b.due("nothing is laid", x.octet(255), 0);
            b.due("nothing is laid", x.octet(256), new int[] {0x11, 0x33, 0x44}[k]);
            int[] outside = {last + 1, 1024, -1, MAX, MIN};
            for (int at : outside) {
                b.due("store at " + at, Bench.act(x, 0x40 + k, Bench.NIL, Bench.as(7, at)), Bench.OUTSIDE);
                b.due("by ram " + at, Bench.act(x, 0x40 + k, Bench.NIL, Bench.as(15, at - 256)), Bench.OUTSIDE);
            }
            x.ram(1024);
            b.due("all is fixed", Bench.act(x, 0x40 + k, Bench.NIL, Bench.mem(last)), Bench.FIXED);
            b.due("outside first", Bench.act(x, 0x40 + k, Bench.NIL, Bench.mem(last + 1)), Bench.OUTSIDE);
            b.due("outside first", Bench.act(x, 0x40 + k, Bench.NIL, Bench.ofRam(0)), Bench.OUTSIDE);
            x.ram(0);
            b.due("nothing is fixed", Bench.act(x, 0x40 + k, Bench.num(-1), Bench.mem(0)), 1);
            b.due("byte", x.octet(0), 255);
        }
    }

    private static void localStores(Bench b) {
        for (int k = 0; k < 3; k++) {
            int last = 64 - WIDTHS[k];
            GlulxModes x = new GlulxModes();
            for (int mode = 9; mode <= 11; mode++) {
                b.due("last", Bench.act(x, 0x40 + k, Bench.num(0x10 + mode), Bench.as(mode, last)), 1);
                b.due("value", x.local(60), 0x10 + mode);
                b.due("none", Bench.act(x, 0x40 + k, Bench.num(-1), Bench.as(mode, last + 1)), Bench.LOCAL);
                b.due("none", Bench.act(x, 0x40 + k, Bench.num(-1), Bench.as(mode, -1)), Bench.LOCAL);
                b.due("value stays", x.local(60), 0x10 + mode);
            }
            b.due("none", Bench.act(x, 0x40 + k, Bench.num(-1), Bench.as(11, MAX)), Bench.LOCAL);
            b.due("none", Bench.act(x, 0x40 + k, Bench.num(-1), Bench.as(11, MIN)), Bench.LOCAL);
            b.due("an odd place", Bench.act(x, 0x40 + k, Bench.num(-1), Bench.as(9, 5)), 1);
            b.due("local 5", x.local(5), new int[] {-1, 0xFFFF0000, 0xFF000000}[k]);
        }
    }

    private static void pileStores(Bench b) {
        GlulxModes x = new GlulxModes();
        for (int k = 0; k < 40; k++) {
            x.push(k);
        }
        b.due("full", Bench.act(x, 0x40, Bench.num(5), Bench.TOP), Bench.FULL);
        b.due("count", x.told(3), 40);
        b.due("one off, one on", Bench.act(x, 0x15, Bench.TOP, Bench.TOP), 1);
        b.due("top", x.stack(0), -39);
        b.due("how many", Bench.act(x, 0x50, Bench.TOP), Bench.FULL);
        b.due("how many to a local", Bench.act(x, 0x50, Bench.loc(0)), 1);
        b.due("forty", x.local(0), 40);
        b.due("division first", Bench.act(x, 0x13, Bench.num(5), Bench.NIL, Bench.TOP), Bench.ZERO);
        x.clear();
        b.due("under", Bench.act(x, 0x40, Bench.TOP, Bench.TOP), Bench.UNDER);
        x.push(1);
        b.due("under", Bench.act(x, 0x10, Bench.TOP, Bench.TOP, Bench.TOP), Bench.UNDER);
        b.same("stack stays", Bench.pile(x), "1");
    }

    private static void arrayLoads(Bench b) {
        GlulxModes x = new GlulxModes();
        x.lay(300, 8, 0x8182838485868788L);
        x.lay(308, 8, 0x9192939495969798L);
        x.lay(1020, 4, 0xA1A2A3A4L);
        int[][] rows = {{0x48, 300, 0, 0x81828384}, {0x48, 300, 2, 0x91929394}, {0x48, 308, -1, 0x85868788},
            {0x48, 301, 1, 0x86878891}, {0x48, 304, 0x40000001, 0x91929394}, {0x48, 1020, 0, 0xA1A2A3A4},
            {0x49, 300, 0, 0x8182}, {0x49, 300, 3, 0x8788}, {0x49, 308, -4, 0x8182}, {0x49, 1022, 0, 0xA3A4},
            {0x49, 300, MIN, 0x8182}, {0x4A, 300, 0, 0x81}, {0x4A, 300, 9, 0x92}, {0x4A, 308, -1, 0x88},
            {0x4A, 1023, 0, 0xA4}, {0x4A, MIN, MIN, 0}};
        for (int[] row : rows) {
            String call = Integer.toHexString(row[0]) + " at " + row[1] + ", " + row[2];
            b.due(call, Bench.act(x, row[0], Bench.num(row[1]), Bench.num(row[2]), Bench.loc(0)), 1);
            b.due(call + " gives", x.local(0), row[3]);
        }
        int[][] none = {{0x48, 1021, 0}, {0x48, 1020, 1}, {0x48, 0, -1}, {0x48, 3, -1}, {0x48, -1, 0}, {0x48, MAX, 0},
            {0x49, 1023, 0}, {0x49, 1022, 1}, {0x49, 1, -1}, {0x49, -1, 0}, {0x4A, 1024, 0}, {0x4A, 0, -1},
            {0x4A, 1000, 24}, {0x4B, 1024, 0}, {0x4B, 1023, 8}, {0x4B, 0, -1}, {0x4B, -1, 7}, {0x4A, MIN, MAX}};
        for (int[] row : none) {
            String call = Integer.toHexString(row[0]) + " at " + row[1] + ", " + row[2];
            b.due(call, Bench.act(x, row[0], Bench.num(row[1]), Bench.num(row[2]), Bench.NIL), Bench.OUTSIDE);
        }
    }

    private static void arrayStores(Bench b) {
        int[] widths = {4, 2, 1};
        for (int k = 0; k < 3; k++) {
            int op = 0x4C + k;
            int w = widths[k];
            GlulxModes x = new GlulxModes();
            b.due("lay", Bench.act(x, op, Bench.num(400), Bench.num(3), Bench.num(0x51525354)), 1);
            b.due("before", x.octet(399 + 3 * w), 0);
            b.due("first", x.octet(400 + 3 * w), 0x55 - w);
            b.due("last", x.octet(399 + 4 * w), 0x54);
            b.due("behind", x.octet(400 + 4 * w), 0);
            b.due("backward", Bench.act(x, op, Bench.num(400), Bench.num(-1), Bench.num(-1)), 1);
            b.due("first", x.octet(400 - w), 255);
            b.due("below it", x.octet(399 - w), 0);
            b.due("at ram", Bench.act(x, op, Bench.num(0), Bench.num(256 / w), Bench.num(-1)), 1);
            b.due("byte", x.octet(256), 255);
            b.due("fixed", Bench.act(x, op, Bench.num(255), Bench.num(0), Bench.num(-1)), Bench.FIXED);
            b.due("fixed", Bench.act(x, op, Bench.num(256), Bench.num(-1), Bench.num(-1)), Bench.FIXED);
            b.due("outside", Bench.act(x, op, Bench.num(0), Bench.num(-1), Bench.num(-1)), Bench.OUTSIDE);
            b.due("outside", Bench.act(x, op, Bench.num(1025 - w), Bench.num(0), Bench.num(-1)), Bench.OUTSIDE);
            x.ram(1024);
            b.due("outside", Bench.act(x, op, Bench.num(1025 - w), Bench.num(0), Bench.num(-1)), Bench.OUTSIDE);
            b.due("fixed", Bench.act(x, op, Bench.num(1024 - w), Bench.num(0), Bench.num(-1)), Bench.FIXED);
            b.due("nothing is laid", x.octet(1023), 0);
            b.due("nothing is laid", x.octet(255), 0);
        }
    }

    private static void bits(Bench b) {
        GlulxModes x = new GlulxModes();
        x.lay(500, 3, 0x81F00FL);
        int[] values = {0x81, 0xF0, 0x0F};
        for (int k = -8; k < 16; k++) {
            Bench.act(x, 0x4B, Bench.num(501), Bench.num(k), Bench.loc(0));
            int want = values[(k + 8) / 8] >> (k + 8) % 8 & 1;
            b.due("bit " + k, x.local(0), want);
        }
        x = new GlulxModes();
        for (int k = -8; k < 8; k++) {
            b.due("set", Bench.act(x, 0x4F, Bench.num(501), Bench.num(k), Bench.num(k % 2 == 0 ? -5 : 256)), 1);
            int at = k < 0 ? 500 : 501;
            b.due("one bit " + k, x.octet(at), (1 << (k + 8) % 8 + 1) - 1);
        }
        b.due("another byte", x.octet(502), 0);
        b.due("another byte", x.octet(499), 0);
        b.due("clear", Bench.act(x, 0x4F, Bench.num(501), Bench.num(-3), Bench.NIL), 1);
        b.due("all but bit 5", x.octet(500), 0xDF);
        b.due("far", Bench.act(x, 0x4F, Bench.num(MAX), Bench.num(MIN), Bench.num(1)), Bench.OUTSIDE);
        b.due("far down", Bench.act(x, 0x4F, Bench.num(0x10000000 + 700), Bench.num(MIN), Bench.num(1)), 1);
        b.due("its bit", x.octet(700), 1);
        b.due("fixed", Bench.act(x, 0x4F, Bench.num(256), Bench.num(-1), Bench.num(1)), Bench.FIXED);
        b.due("nothing is laid", x.octet(255), 0);
        b.due("outside", Bench.act(x, 0x4F, Bench.num(1023), Bench.num(8), Bench.num(1)), Bench.OUTSIDE);
        b.due("outside", Bench.act(x, 0x4F, Bench.num(0), Bench.num(-1), Bench.num(1)), Bench.OUTSIDE);
    }
}
