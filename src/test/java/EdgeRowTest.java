/** Terms 2: how a row is written, and its modes; the sentences that name a boundary case, one by one. */
public final class EdgeRowTest {
    private static final int MIN = Bench.MIN, MAX = Bench.MAX;
    private static final Bench.Operand T = Bench.TOP;
    private static final Bench.Operand N = Bench.NIL;
    private static final int[] SIZES = {4, 2, 1};

    private final Bench b = new Bench();

    public static void main(String[] args) {
        EdgeRowTest t = new EdgeRowTest();
        t.oneByte();
        t.twoBytes();
        t.fourBytes();
        t.lowerBitsFirst();
        t.oddHigherBits();
        t.whatModesWant();
        t.nextRow();
        t.operationNotThere();
        t.noOperation();
        t.othersNotThere();
        t.modesFourAndTwelve();
        t.storesOfNumbers();
        t.orderOfFaults();
        t.zeroLoaded();
        t.numbersLoaded();
        t.memoryLoaded();
        t.ramLoaded();
        t.localsLoaded();
        t.topLoaded();
        t.nothingStored();
        t.memoryStored();
        t.localsStored();
        t.topStored();
        t.widthLoaded();
        t.widthStored();
        t.b.end();
    }

    private static GlulxModes laid(int at, int n, long v) {
        GlulxModes x = new GlulxModes();
        x.lay(at, n, v);
        return x;
    }

    /** What read answers of a row at 300, whose first bytes these are. */
    private static int read(int n, long v) {
        return laid(300, n, v).read(300);
    }

    private static int operation(int n, long v) {
        GlulxModes x = laid(300, n, v);
        x.read(300);
        return x.row(0);
    }

    private void oneByte() {
        b.sentence("the first byte below 128: that");
        b.due("0", read(1, 0x00), 1);
        b.due("0 is its OPERATION", operation(1, 0x00), 0);
        b.due("54", read(2, 0x5400), 2);
        b.due("54 is its OPERATION", operation(1, 0x54), 0x54);
        b.due("127 is one byte, which is none", read(1, 0x7F), Bench.OPERATION);
        b.due("127 at the end needs no second byte", laid(1023, 1, 0x7F).read(1023), Bench.OPERATION);
        b.due("7F 20 is not 120", read(2, 0x7F20), Bench.OPERATION);
    }

    private void twoBytes() {
        b.sentence("128 to 191: the lowest 14 bits of two bytes");
        b.due("80 00", read(2, 0x8000), 2);
        b.due("80 00 is 0", operation(2, 0x8000), 0);
        b.due("80 52", read(2, 0x8052), 2);
        b.due("80 52 is 52", operation(2, 0x8052), 0x52);
        b.due("81 20", read(2, 0x8120), 2);
        b.due("81 20 is 120", operation(2, 0x8120), 0x120);
        b.due("BF FF has two bytes", read(2, 0xBFFF), Bench.OPERATION);
        b.due("BF at the end misses one", laid(1023, 1, 0xBF).read(1023), Bench.OUTSIDE);
        b.due("BF FF at the end is there", laid(1022, 2, 0xBFFF).read(1022), Bench.OPERATION);
        b.due("80 at the end misses one", laid(1023, 1, 0x80).read(1023), Bench.OUTSIDE);
        b.due("A0 00 is 2000, not 0", read(2, 0xA000), Bench.OPERATION);
        b.due("90 00 is 1000, not 0", read(2, 0x9000), Bench.OPERATION);
        b.due("82 00 is 200, not 0", read(2, 0x8200), Bench.OPERATION);
    }

    private void fourBytes() {
        b.sentence("else: the lowest 28 bits of four");
        long[] highest = {0xC0000000L, 0xD0000000L, 0xE0000000L, 0xF0000000L};
        for (long high : highest) {
            b.due(high + " and 0", read(4, high), 4);
            b.due(high + " and 52", operation(4, high | 0x52), 0x52);
            b.due(high + " and 151", operation(4, high | 0x151), 0x151);
            b.due(high + " and 31, its mode and number", read(6, (high | 0x31) << 16 | 0x0107), 6);
            b.due("bit 27", read(4, high | 0x08000000L), Bench.OPERATION);
            b.due("bit 14", read(4, high | 0x00004000L), Bench.OPERATION);
            b.due("three at the end", laid(1021, 3, high >> 8).read(1021), Bench.OUTSIDE);
            b.due("four at the end", laid(1020, 4, high).read(1020), 4);
        }
        b.due("FF FF FF FF", read(4, 0xFFFFFFFFL), Bench.OPERATION);
        b.due("one at the end", laid(1023, 1, 0xC0).read(1023), Bench.OUTSIDE);
        b.due("one at the end", laid(1023, 1, 0xFF).read(1023), Bench.OUTSIDE);
    }

    private void lowerBitsFirst() {
        b.sentence("Then the MODES of its operands, two a byte, the lower four bits first");
        GlulxModes x = laid(300, 8, 0x8150532186970000L);
        x.read(300);
        int[] modes = {3, 5, 1, 2, 6, 8, 7, 9};
        for (int k = 0; k < 8; k++) {
            b.due("MODE " + k, x.row(10 + k), modes[k]);
        }
        x = laid(300, 4, 0x40910508L);
        x.go(300);
        b.due("the lower is the load", x.step(), 1);
        b.due("the higher is the store", x.local(8), 5);
    }

    private void oddHigherBits() {
        b.sentence("of an odd number the last higher ones are not looked at");
        for (int bits = 0; bits < 16; bits++) {
            b.due("of one operand, " + bits, read(2, 0x3100L | bits << 4), 2);
            b.due("of three operands, " + bits, read(3, 0x100000L | bits << 4), 3);
            GlulxModes x = laid(300, 3, 0x310105L | bits << 12);
            x.go(300);
            b.due("it is done, " + bits, x.step(), 0);
            b.due("its ANSWER", x.told(2), 5);
            b.due("the NEXT ROW", x.told(0), 303);
        }
        b.due("of two operands they are", read(2, 0x2240), Bench.MODE);
    }

    private void whatModesWant() {
        b.sentence("of 0, 8 nothing, of 1, 5, 9, 13 one byte, of 2, 6, 10, 14 two, of 3, 7, 11, 15 four");
        int[] wants = {0, 1, 2, 4, -1, 1, 2, 4, 0, 1, 2, 4, -1, 1, 2, 4};
        for (int mode = 0; mode < 16; mode++) {
            if (wants[mode] >= 0) {
                b.due("a load of mode " + mode, read(2, 0x3100L | mode), 2 + wants[mode]);
                b.due("two of mode " + mode, read(2, 0x2200L | mode << 4 | mode), 2 + 2 * wants[mode]);
                GlulxModes x = laid(300, 2, 0x2200L | 1 << 4 | mode);
                x.lay(302 + wants[mode], 1, 0x2A);
                x.read(300);
                b.due("the number behind mode " + mode, x.row(21), 0x2A);
            }
        }
    }

    private void nextRow() {
        b.sentence("Behind it lies the NEXT ROW.");
        int[] modes = {0, 1, 2, 3, 5, 6, 7, 8, 9, 10, 11, 13, 14, 15};
        for (int mode : modes) {
            GlulxModes x = Bench.pushed(1);
            int next = Bench.lay(x, 300, 0x40, Bench.as(mode, 0), N);
            x.go(300);
            b.due("mode " + mode, x.step(), 1);
            b.due("PC behind mode " + mode, x.told(0), next);
        }
        GlulxModes x = laid(1022, 2, 0x8052);
        x.push(1);
        x.push(2);
        x.go(1022);
        b.due("the last ROW", x.step(), 1);
        b.due("behind MEMORY", x.told(0), 1024);
        b.due("nothing is there", x.step(), Bench.OUTSIDE);
    }

    private void operationNotThere() {
        b.sentence("OUTSIDE, if the OPERATION's bytes are not all there");
        int[] places = {-1, -2, -4, 1024, 1025, MIN, MAX, MAX - 3};
        for (int at : places) {
            GlulxModes x = new GlulxModes();
            b.due("read " + at, x.read(at), Bench.OUTSIDE);
            x.go(at);
            b.due("step at " + at, x.step(), Bench.OUTSIDE);
        }
        b.due("one of two", laid(1023, 1, 0x81).read(1023), Bench.OUTSIDE);
        b.due("two of two", laid(1022, 2, 0x8120).read(1022), 2);
        b.due("one of four", laid(1023, 1, 0xC0).read(1023), Bench.OUTSIDE);
        b.due("two of four", laid(1022, 2, 0xC000).read(1022), Bench.OUTSIDE);
        b.due("three of four", laid(1021, 3, 0xC00001).read(1021), Bench.OUTSIDE);
        b.due("four of four", laid(1020, 4, 0xC0000120L).read(1020), 4);
        b.due("one of one", laid(1023, 1, 0x52).read(1023), 1);
    }

    private void noOperation() {
        b.sentence("OPERATION, if it is none of these");
        int[] none = {0x01, 0x0F, 0x16, 0x17, 0x1F, 0x21, 0x2E, 0x2F, 0x30, 0x32, 0x3F, 0x43, 0x46, 0x47, 0x55,
            0x5F, 0x60, 0x7F, 0x80, 0xFF, 0x101, 0x102, 0x103, 0x105, 0x110, 0x11F, 0x121, 0x14F, 0x152, 0x16F,
            0x172, 0x200, 0x1000, 0x3FFF};
        for (int op : none) {
            b.due("read " + Integer.toHexString(op), read(2, 0x8000 | op), Bench.OPERATION);
            GlulxModes x = laid(300, 4, 0xC0000000L | op);
            x.go(300);
            b.due("step " + Integer.toHexString(op), x.step(), Bench.OPERATION);
        }
        int[] these = {0x00, 0x10, 0x15, 0x18, 0x1E, 0x20, 0x22, 0x2D, 0x31, 0x40, 0x42, 0x44, 0x45, 0x48, 0x4F, 0x50,
            0x54, 0x100, 0x104, 0x120, 0x150, 0x151, 0x170, 0x171};
        for (int op : these) {
            b.due("row of " + Integer.toHexString(op), operation(2, 0x8000 | op), op);
        }
    }

    private void othersNotThere() {
        b.sentence("OUTSIDE, if the others are not all there");
        b.due("no MODES of one", laid(1023, 1, 0x31).read(1023), Bench.OUTSIDE);
        b.due("no second byte of MODES", laid(1022, 2, 0x1000).read(1022), Bench.OUTSIDE);
        b.due("both bytes of MODES", laid(1021, 3, 0x100000).read(1021), 3);
        b.due("three of four bytes of MODES", laid(1019, 5, 0x8150000000L).read(1019), Bench.OUTSIDE);
        b.due("four of four bytes of MODES", laid(1018, 6, 0x815000000000L).read(1018), 6);
        for (int mode = 0; mode < 16; mode++) {
            int want = Bench.widthOf(mode);
            for (int there = 0; there < want; there++) {
                GlulxModes x = laid(1022 - there, 2, 0x3100 | mode);
                b.due(there + " of " + want + " bytes", x.read(1022 - there), Bench.OUTSIDE);
                x.go(1022 - there);
                b.due("nor is it done", x.step(), Bench.OUTSIDE);
            }
            if (mode != 4 && mode != 12) {
                b.due("all of " + want, laid(1022 - want, 2, 0x3100 | mode).read(1022 - want), 2 + want);
            }
        }
        b.due("the second's", laid(1021, 3, 0x221105).read(1021), Bench.OUTSIDE);
        b.due("the second's are there", laid(1020, 4, 0x22110505).read(1020), 4);
    }

    private void modesFourAndTwelve() {
        b.sentence("MODES 4 and 12 wanting none; MODE: 4, 12");
        int[] modes = {4, 12};
        for (int mode : modes) {
            b.due("of a load", read(2, 0x3100 | mode), Bench.MODE);
            b.due("it wants none", laid(1022, 2, 0x3100 | mode).read(1022), Bench.MODE);
            b.due("of the first of two", read(2, 0x2200 | mode), Bench.MODE);
            b.due("of the second of two", read(2, 0x2200 | mode << 4), Bench.MODE);
            b.due("of a store", read(2, 0x4000 | mode << 4), Bench.MODE);
            b.due("the other's bytes are there", laid(1021, 3, 0x220105 | mode << 12).read(1021), Bench.MODE);
            b.due("the other's bytes are not", laid(1022, 2, 0x2201 | mode << 4).read(1022), Bench.OUTSIDE);
            b.due("the other's bytes are not", laid(1022, 2, 0x2210 | mode).read(1022), Bench.OUTSIDE);
            GlulxModes x = new GlulxModes();
            b.due("it is not done", Bench.act(x, 0x40, Bench.as(mode, 0), N), Bench.MODE);
        }
    }

    private void storesOfNumbers() {
        b.sentence("MODE: 4, 12, and 1, 2, 3 for a store.");
        int[] stores = {0x10, 0x14, 0x15, 0x1B, 0x1E, 0x40, 0x41, 0x42, 0x44, 0x45, 0x48, 0x4B, 0x50, 0x51, 0x100, 0x150,
            0x151};
        int[] counts = {3, 3, 2, 2, 3, 2, 2, 2, 2, 2, 3, 3, 1, 2, 3, 8, 8};
        for (int k = 0; k < stores.length; k++) {
            for (int mode = 1; mode <= 3; mode++) {
                Bench.Operand[] all = new Bench.Operand[counts[k]];
                java.util.Arrays.fill(all, Bench.as(mode, 1));
                all[all.length - 1] = N;
                GlulxModes x = new GlulxModes();
                Bench.lay(x, 300, stores[k], all);
                b.due("loads of mode " + mode + " are fine", x.read(300) > 0 ? 1 : 0, 1);
                all[all.length - 1] = Bench.as(mode, 1);
                Bench.lay(x, 300, stores[k], all);
                b.due("a store of mode " + mode, x.read(300), Bench.MODE);
                x.go(300);
                b.due("it is not done", x.step(), Bench.MODE);
            }
        }
        int[] loads = {0x4C, 0x4F, 0x24, 0x171};
        for (int op : loads) {
            GlulxModes x = new GlulxModes();
            Bench.lay(x, 300, op, Bench.as(1, 1), Bench.as(2, 1), Bench.as(3, 1));
            b.due("a third load of mode 3", x.read(300) > 0 ? 1 : 0, 1);
        }
    }

    private void orderOfFaults() {
        b.sentence("FAULTS: OUTSIDE, if the OPERATION's bytes are not all there; OPERATION, if it is none of these; OUTSIDE,"
            + " if the others are not all there, MODES 4 and 12 wanting none; MODE");
        b.due("OUTSIDE, though it would be none", laid(1023, 1, 0xBF).read(1023), Bench.OUTSIDE);
        b.due("OPERATION, though no MODES are there", laid(1023, 1, 0x7F).read(1023), Bench.OPERATION);
        b.due("OPERATION, though no MODES are there", laid(1022, 2, 0x8001).read(1022), Bench.OPERATION);
        b.due("OUTSIDE before MODE", laid(1021, 3, 0x101400).read(1021), Bench.OUTSIDE);
        b.due("OUTSIDE before MODE of a store", laid(1022, 2, 0x4010).read(1022), Bench.OUTSIDE);
        b.due("MODE of a store, all is there", laid(1021, 3, 0x401005).read(1021), Bench.MODE);
        GlulxModes x = laid(1021, 3, 0x101400);
        x.go(1021);
        b.due("likewise in step", x.step(), Bench.OUTSIDE);
    }

    private void zeroLoaded() {
        b.sentence("MODES, what is loaded: 0: 0");
        GlulxModes x = Bench.pushed(9);
        x.lay(0, 4, 0x01020304L);
        Bench.act(x, 0x40, Bench.num(-1), Bench.loc(0));
        b.due("mode 0", Bench.act(x, 0x40, N, T), 1);
        b.same("0 comes on the STACK", Bench.pile(x), "9 0");
    }

    private void numbersLoaded() {
        b.sentence("1, 2, 3: the number (with sign)");
        int[][] rows = {{1, 0x00, 0}, {1, 0x7F, 127}, {1, 0x80, -128}, {1, 0xFF, -1}, {2, 0x007F, 127}, {2, 0x00FF, 255},
            {2, 0x7FFF, 32767}, {2, 0x8000, -32768}, {2, 0xFFFF, -1}, {3, 0xFFFF, 65535}, {3, 0x8000, 32768},
            {3, MAX, MAX}, {3, MIN, MIN}, {3, -1, -1}};
        for (int[] row : rows) {
            b.due("mode " + row[0] + " of " + row[1], Bench.value(0x40, Bench.as(row[0], row[1])), row[2]);
        }
    }

    private void memoryLoaded() {
        b.sentence("5, 6, 7: what lies in MEMORY at the number (no sign; of four bytes with)");
        GlulxModes x = new GlulxModes();
        x.lay(255, 4, 0x81828384L);
        x.lay(1020, 4, 0x91929394L);
        int[][] rows = {{5, 255, 0x40, 0x81828384}, {6, 255, 0x40, 0x81828384}, {7, 255, 0x40, 0x81828384},
            {5, 255, 0x41, 0x8182}, {6, 255, 0x41, 0x8182}, {5, 255, 0x42, 0x81}, {7, 255, 0x42, 0x81},
            {6, 1020, 0x40, 0x91929394}, {7, 1020, 0x40, 0x91929394}, {6, 1022, 0x41, 0x9394}, {7, 1023, 0x42, 0x94}};
        for (int[] row : rows) {
            Bench.act(x, row[2], Bench.as(row[0], row[1]), T);
            b.due("mode " + row[0] + " at " + row[1], x.stack(0), row[3]);
        }
        for (int k = 0; k < 3; k++) {
            int last = 1024 - SIZES[k];
            b.due("last of " + SIZES[k], Bench.act(x, 0x40 + k, Bench.as(6, last), N), 1);
            b.due("one too far", Bench.act(x, 0x40 + k, Bench.as(6, last + 1), N), Bench.OUTSIDE);
            b.due("no sign, so far out", Bench.act(x, 0x40 + k, Bench.as(6, 0xFFFF), N), Bench.OUTSIDE);
            b.due("no sign, so place 255", Bench.act(x, 0x40 + k, Bench.as(5, 0xFF), N), 1);
            b.due("below all", Bench.act(x, 0x40 + k, Bench.as(7, -1), N), Bench.OUTSIDE);
        }
    }

    private void ramLoaded() {
        b.sentence("13, 14, 15: likewise, at RAM and the number");
        for (int k = 0; k < 3; k++) {
            int[] rams = {0, 1, 256, 1000, 1024};
            for (int ram : rams) {
                GlulxModes x = new GlulxModes();
                x.ram(ram);
                x.lay(1020, 4, 0x91929394L);
                int last = 1024 - SIZES[k] - ram;
                b.due("the last", Bench.act(x, 0x40 + k, Bench.as(15, last), T), 1);
                b.due("what lies there", x.stack(0), new int[] {0x91929394, 0x9394, 0x94}[k]);
                b.due("one too far", Bench.act(x, 0x40 + k, Bench.as(15, last + 1), N), Bench.OUTSIDE);
                b.due("the first", Bench.act(x, 0x40 + k, Bench.as(15, -ram), N), 1);
                b.due("below all", Bench.act(x, 0x40 + k, Bench.as(15, -ram - 1), N), Bench.OUTSIDE);
                b.due("far below", Bench.act(x, 0x40 + k, Bench.as(15, MIN), N), Bench.OUTSIDE);
                b.due("far above", Bench.act(x, 0x40 + k, Bench.as(15, MAX), N), Bench.OUTSIDE);
            }
        }
        GlulxModes x = new GlulxModes();
        x.lay(256 + 255, 1, 0x77L);
        Bench.act(x, 0x42, Bench.as(13, 0xFF), T);
        b.due("one byte has no sign", x.stack(0), 0x77);
        b.due("two bytes have no sign", Bench.act(x, 0x42, Bench.as(14, 0xFFFF), T), Bench.OUTSIDE);
    }

    private void localsLoaded() {
        b.sentence("9, 10, 11: what lies in LOCALS at the number (no sign; of four bytes with)");
        GlulxModes x = new GlulxModes();
        Bench.act(x, 0x40, Bench.num(0x81828384), Bench.loc(60));
        Bench.act(x, 0x40, Bench.num(0x91929394), Bench.loc(0));
        for (int mode = 9; mode <= 11; mode++) {
            for (int k = 0; k < 3; k++) {
                Bench.act(x, 0x40 + k, Bench.as(mode, 64 - SIZES[k]), T);
                b.due("the last, mode " + mode, x.stack(0), new int[] {0x81828384, 0x8384, 0x84}[k]);
                Bench.act(x, 0x40 + k, Bench.as(mode, 0), T);
                b.due("the first, mode " + mode, x.stack(0), new int[] {0x91929394, 0x9192, 0x91}[k]);
                b.due("one too far", Bench.act(x, 0x40 + k, Bench.as(mode, 65 - SIZES[k]), N), Bench.LOCAL);
                b.due("-1, or without a sign", Bench.act(x, 0x40 + k, Bench.as(mode, -1), N), Bench.LOCAL);
            }
        }
    }

    private void topLoaded() {
        b.sentence("8: the top of the STACK, which is taken off");
        GlulxModes x = Bench.pushed(MIN);
        b.due("of one", Bench.act(x, 0x40, T, Bench.loc(0)), 1);
        b.due("the top", x.local(0), MIN);
        b.due("is taken off", x.told(3), 0);
        b.due("of none", Bench.act(x, 0x40, T, Bench.loc(0)), Bench.UNDER);
        x = Bench.pushed(1, 2, 30);
        Bench.act(x, 0x11, T, T, Bench.loc(0));
        b.due("the top first", x.local(0), 28);
        b.same("two are taken off", Bench.pile(x), "1");
        b.due("the second is not there", Bench.act(x, 0x11, T, T, Bench.loc(0)), Bench.UNDER);
        b.same("none is taken off", Bench.pile(x), "1");
        x = Bench.pushed(7);
        b.due("a branch not taken", Bench.act(x, 0x22, Bench.num(1), T), 1);
        b.due("takes it off too", x.told(3), 0);
    }

    private void nothingStored() {
        b.sentence("Stored: 0 nothing");
        GlulxModes x = Bench.pushedUpTo(40);
        x.ram(1024);
        b.due("a full STACK is no matter", Bench.act(x, 0x40, Bench.num(5), N), 1);
        b.due("forty", x.told(3), 40);
        b.due("place 0", Bench.word(x, 0), 0);
        b.due("local 0", x.local(0), 0);
    }

    private void memoryStored() {
        b.sentence("MEMORY (OUTSIDE, then FIXED)");
        for (int k = 0; k < 3; k++) {
            GlulxModes x = new GlulxModes();
            int last = 1024 - SIZES[k];
            b.due("below RAM", Bench.act(x, 0x40 + k, N, Bench.mem(255)), Bench.FIXED);
            b.due("at RAM", Bench.act(x, 0x40 + k, N, Bench.mem(256)), 1);
            b.due("at the end", Bench.act(x, 0x40 + k, N, Bench.mem(last)), 1);
            b.due("beyond it", Bench.act(x, 0x40 + k, N, Bench.mem(last + 1)), Bench.OUTSIDE);
            b.due("below 0 is OUTSIDE, not FIXED", Bench.act(x, 0x40 + k, N, Bench.as(7, -1)), Bench.OUTSIDE);
            b.due("far below 0", Bench.act(x, 0x40 + k, N, Bench.as(7, MIN)), Bench.OUTSIDE);
            b.due("far beyond", Bench.act(x, 0x40 + k, N, Bench.as(7, MAX)), Bench.OUTSIDE);
            x.ram(1024);
            b.due("FIXED at the end", Bench.act(x, 0x40 + k, N, Bench.mem(last)), Bench.FIXED);
            b.due("beyond it, below RAM", Bench.act(x, 0x40 + k, N, Bench.mem(1023)), k < 2 ? Bench.OUTSIDE : Bench.FIXED);
            b.due("at RAM is OUTSIDE", Bench.act(x, 0x40 + k, N, Bench.ofRam(0)), Bench.OUTSIDE);
        }
    }

    private void localsStored() {
        b.sentence("LOCALS likewise");
        for (int mode = 9; mode <= 11; mode++) {
            for (int k = 0; k < 3; k++) {
                GlulxModes x = new GlulxModes();
                x.ram(1024);
                b.due("the first is not FIXED", Bench.act(x, 0x40 + k, Bench.num(-1), Bench.as(mode, 0)), 1);
                b.due("the last", Bench.act(x, 0x40 + k, Bench.num(-1), Bench.as(mode, 64 - SIZES[k])), 1);
                b.due("one too far", Bench.act(x, 0x40 + k, N, Bench.as(mode, 65 - SIZES[k])), Bench.LOCAL);
                b.due("-1, or without a sign", Bench.act(x, 0x40 + k, N, Bench.as(mode, -1)), Bench.LOCAL);
                b.due("the first bytes", x.local(0), -1 << 32 - 8 * SIZES[k]);
                b.due("the last bytes", x.local(60), -1 >>> 32 - 8 * SIZES[k]);
            }
        }
    }

    private void topStored() {
        b.sentence("8: it comes on the STACK (FULL)");
        GlulxModes x = new GlulxModes();
        b.due("on none", Bench.act(x, 0x40, Bench.num(3), T), 1);
        b.same("one", Bench.pile(x), "3");
        for (int k = 0; k < 3; k++) {
            x = Bench.pushedUpTo(39);
            b.due("on 39", Bench.act(x, 0x40 + k, Bench.num(3), T), 1);
            b.due("on 40", Bench.act(x, 0x40 + k, Bench.num(4), T), Bench.FULL);
            b.due("the top", x.stack(0), 3);
        }
    }

    private void widthLoaded() {
        b.sentence("so many bytes are loaded or stored (of numbers, and of the STACK, the lowest ones; what is so loaded has"
            + " no sign");
        int[] numbers = {0, 0x7F, 0x80, 0xFF, 0x100, 0x7FFF, 0x8000, 0xFFFF, 0x10000, -1, MIN, MAX, 0x12348795};
        for (int number : numbers) {
            b.due("copy of " + number, Bench.value(0x40, Bench.num(number)), number);
            b.due("copys of " + number, Bench.value(0x41, Bench.num(number)), number & 0xFFFF);
            b.due("copyb of " + number, Bench.value(0x42, Bench.num(number)), number & 0xFF);
            GlulxModes x = Bench.pushed(number, number, number);
            Bench.act(x, 0x42, T, Bench.loc(0));
            Bench.act(x, 0x41, T, Bench.loc(4));
            Bench.act(x, 0x40, T, Bench.loc(8));
            b.due("copyb of the STACK", x.local(0), number << 24);
            b.due("copys of the STACK", x.local(4), number << 16);
            b.due("copy of the STACK", x.local(8), number);
            b.due("a whole int is taken off", x.told(3), 0);
        }
    }

    private void widthStored() {
        b.sentence("on the STACK it comes as an int");
        GlulxModes x = new GlulxModes();
        x.lay(400, 4, 0xFFFEFDFCL);
        Bench.act(x, 0x41, Bench.mem(400), T);
        b.due("two bytes", x.stack(0), 0xFFFE);
        Bench.act(x, 0x42, Bench.mem(400), T);
        b.due("one byte", x.stack(0), 0xFF);
        b.due("two ints", x.told(3), 2);
        x.lay(500, 8, 0x0102030405060708L);
        Bench.act(x, 0x41, Bench.num(-1), Bench.mem(502));
        b.due("two bytes of MEMORY", Bench.word(x, 500), 0x0102FFFF);
        b.due("no more", Bench.word(x, 504), 0x05060708);
        Bench.act(x, 0x42, Bench.num(-1), Bench.mem(505));
        b.due("one byte of MEMORY", Bench.word(x, 504), 0x05FF0708);
        Bench.act(x, 0x42, Bench.num(-1), Bench.loc(9));
        b.due("one byte of LOCALS", x.local(8), 0x00FF0000);
        Bench.act(x, 0x41, Bench.num(-1), Bench.loc(13));
        b.due("two bytes of LOCALS", x.local(12), 0x00FFFF00);
    }
}
