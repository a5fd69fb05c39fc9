/** Terms 1: memory, RAM, the stack, locals, numbers and faults; the sentences that name a boundary case, one by one. */
public final class EdgeTermsTest {
    private static final int MIN = Bench.MIN, MAX = Bench.MAX;
    private static final Bench.Operand T = Bench.TOP;
    private static final Bench.Operand N = Bench.NIL;

    private final Bench b = new Bench();

    public static void main(String[] args) {
        EdgeTermsTest t = new EdgeTermsTest();
        t.memory();
        t.belowRam();
        t.stackOfForty();
        t.locals();
        t.placeOfPc();
        t.highestFirst();
        t.reckoningWraps();
        t.placesWrap();
        t.outside();
        t.under();
        t.full();
        t.zero();
        t.local();
        t.fixed();
        t.changesNothing();
        t.firstOfSeveral();
        t.b.end();
    }

    /** The ways in which the machine stores; each changes a byte 55 (hexadecimal). */
    private static final int WAYS = 11;

    private static int sizeOf(int way) {
        return new int[] {4, 2, 1, 4, 2, 1, 1, 1, 3, 3, 4}[way];
    }

    private static int store(GlulxModes x, int way, int at) {
        switch (way) {
            case 0: case 1: case 2: return Bench.act(x, 0x40 + way, N, Bench.as(7, at));
            case 3: case 4: case 5: return Bench.act(x, 0x4C + way - 3, Bench.num(at), N, N);
            case 6: return Bench.act(x, 0x4F, Bench.num(at), N, N);
            case 7: return Bench.act(x, 0x170, Bench.num(1), Bench.num(at));
            case 8: return Bench.act(x, 0x170, Bench.num(3), Bench.num(at));
            case 9: return Bench.act(x, 0x171, Bench.num(3), Bench.num(100), Bench.num(at));
            default: return Bench.act(x, 0x10, N, N, Bench.as(15, at - x.told(4)));
        }
    }

    private static GlulxModes marked(int ram, int around) {
        GlulxModes x = new GlulxModes();
        x.ram(ram);
        for (int at = Math.max(0, around - 6); at < Math.min(1024, around + 6); at++) {
            x.lay(at, 1, 0x55L);
        }
        return x;
    }

    private void memory() {
        b.sentence("MEMORY has bytes 0 .. 1023 (0 at first)");
        GlulxModes x = new GlulxModes();
        x.ram(0);
        b.due("the first is 0", x.octet(0), 0);
        b.due("the last is 0", x.octet(1023), 0);
        b.due("none before", x.octet(-1), -1);
        b.due("none behind", x.octet(1024), -1);
        for (int way = 0; way < WAYS; way++) {
            int last = 1024 - sizeOf(way);
            x = marked(0, 1020);
            b.due("the last of way " + way, store(x, way, last), 1);
            b.due("something is stored", x.octet(last) == 0x55 ? 1 : 0, 0);
            b.due("nothing before it", x.octet(last - 1), 0x55);
            b.due("one too far, way " + way, store(x, way, last + 1), Bench.OUTSIDE);
            b.due("none before, way " + way, store(x, way, -1), Bench.OUTSIDE);
            x = marked(0, 0);
            b.due("the first of way " + way, store(x, way, 0), 1);
            b.due("something is stored", x.octet(0) == 0x55 ? 1 : 0, 0);
            b.due("nothing behind it", x.octet(sizeOf(way)), 0x55);
        }
    }

    private void belowRam() {
        b.sentence("RAM begins at a byte (256 at first), below it nothing is stored by the machine.");
        b.due("at first, below", store(marked(256, 256), 2, 255), Bench.FIXED);
        b.due("at first, from it on", store(marked(256, 256), 2, 256), 1);
        b.due("a new object's RAM", Bench.act(new GlulxModes(), 0x42, Bench.num(1), Bench.mem(255)), Bench.FIXED);
        b.due("a new object's RAM", Bench.act(new GlulxModes(), 0x42, Bench.num(1), Bench.mem(256)), 1);
        int[] rams = {1, 256, 257, 700, 1019, 1023};
        for (int ram : rams) {
            for (int way = 0; way < WAYS; way++) {
                ramAt(ram, way);
            }
        }
        for (int way = 0; way < WAYS; way++) {
            GlulxModes x = marked(1024, 1020);
            b.due("no RAM, way " + way, store(x, way, 1024 - sizeOf(way)), Bench.FIXED);
            b.due("stays", x.octet(1023), 0x55);
        }
    }

    private void ramAt(int ram, int way) {
        String name = "RAM at " + ram + ", way " + way;
        int size = sizeOf(way);
        for (int before = 1; before <= size && ram - before >= 0; before++) {
            GlulxModes x = marked(ram, ram);
            boolean there = ram - before + size <= 1024;
            b.due(name + " below", store(x, way, ram - before), there ? Bench.FIXED : Bench.OUTSIDE);
            b.due(name + " stays", x.octet(ram - before), 0x55);
            b.due(name + " stays too", x.octet(ram), 0x55);
        }
        if (ram + size <= 1024) {
            GlulxModes x = marked(ram, ram);
            b.due(name + " from it on", store(x, way, ram), 1);
            b.due(name + " is stored", x.octet(ram) == 0x55 ? 1 : 0, 0);
        }
    }

    private void stackOfForty() {
        b.sentence("The STACK has ints, 40 at most.");
        GlulxModes x = Bench.pushedUpTo(39);
        b.due("the fortieth by a store", Bench.act(x, 0x40, Bench.num(MIN), T), 1);
        b.due("an int", x.stack(0), MIN);
        b.due("the next by a store", Bench.act(x, 0x40, Bench.num(6), T), Bench.FULL);
        b.due("the next by push", x.push(6), GlulxModes.NONE);
        b.due("the next by 54", Bench.act(x, 0x54, Bench.num(1)), Bench.FULL);
        b.due("forty", x.told(3), 40);
        x = Bench.pushedUpTo(39);
        b.due("the fortieth by push", x.push(MAX), 40);
        x = Bench.pushedUpTo(39);
        b.due("the fortieth by 54", Bench.act(x, 0x54, Bench.num(1)), 1);
        b.due("forty", x.told(3), 40);
    }

    private void locals() {
        b.sentence("LOCALS are bytes 0 .. 63 (0 at first).");
        b.due("the first is 0", new GlulxModes().local(0), 0);
        b.due("the last is 0", new GlulxModes().local(60), 0);
        for (int k = 0; k < 3; k++) {
            int size = new int[] {4, 2, 1}[k];
            GlulxModes x = new GlulxModes();
            b.due("load the first", Bench.act(x, 0x40 + k, Bench.loc(0), N), 1);
            b.due("load the last", Bench.act(x, 0x40 + k, Bench.loc(64 - size), N), 1);
            b.due("load one too far", Bench.act(x, 0x40 + k, Bench.loc(65 - size), N), Bench.LOCAL);
            b.due("load before", Bench.act(x, 0x40 + k, Bench.as(11, -1), N), Bench.LOCAL);
            b.due("store the first", Bench.act(x, 0x40 + k, Bench.num(-1), Bench.loc(0)), 1);
            b.due("stored", x.local(0), -1 << 32 - 8 * size);
            b.due("store the last", Bench.act(x, 0x40 + k, Bench.num(-1), Bench.loc(64 - size)), 1);
            b.due("stored", x.local(60), -1 >>> 32 - 8 * size);
            b.due("store one too far", Bench.act(x, 0x40 + k, N, Bench.loc(65 - size)), Bench.LOCAL);
            b.due("store before", Bench.act(x, 0x40 + k, N, Bench.as(11, -1)), Bench.LOCAL);
            b.due("stays", x.local(0), -1 << 32 - 8 * size);
            b.due("stays", x.local(60), -1 >>> 32 - 8 * size);
        }
    }

    private void placeOfPc() {
        b.sentence("PC is a place (0 at first).");
        GlulxModes x = new GlulxModes();
        b.due("told", x.told(0), 0);
        x.lay(0, 3, 0x310109L);
        b.due("the ROW at 0 is the first", x.step(), 0);
        b.due("its ANSWER", x.told(2), 9);
        b.due("go", new GlulxModes().go(5), 0);
    }

    private void highestFirst() {
        b.sentence("Ints, and numbers of two bytes, have their highest byte first.");
        GlulxModes x = new GlulxModes();
        x.lay(300, 4, 0x01020304L);
        Bench.act(x, 0x40, Bench.mem(300), Bench.loc(0));
        b.due("an int of MEMORY", x.local(0), 0x01020304);
        Bench.act(x, 0x41, Bench.mem(300), Bench.loc(4));
        b.due("two bytes of MEMORY", x.local(4), 0x01020000);
        Bench.act(x, 0x42, Bench.loc(1), T);
        b.due("the second byte of LOCALS", x.stack(0), 2);
        Bench.act(x, 0x41, Bench.loc(2), T);
        b.due("two bytes of LOCALS", x.stack(0), 0x0304);
        Bench.act(x, 0x40, Bench.as(3, 0x0A0B0C0D), Bench.mem(400));
        b.due("an int that is stored", x.octet(400), 0x0A);
        b.due("its last", x.octet(403), 0x0D);
        Bench.act(x, 0x41, Bench.as(3, 0x0A0B0C0D), Bench.mem(410));
        b.due("two bytes that are stored", x.octet(410), 0x0C);
        b.due("their last", x.octet(411), 0x0D);
        x.lay(16, 6, 0x400200011200L);
        x.read(16);
        b.due("a number of two bytes", x.row(20), 1);
        Bench.act(x, 0x4D, Bench.num(420), N, Bench.num(0x0102));
        b.due("two bytes of 4D", x.octet(420), 1);
        Bench.act(x, 0x49, Bench.num(420), N, T);
        b.due("two bytes of 49", x.stack(0), 0x0102);
        Bench.act(x, 0x4C, Bench.num(430), N, Bench.num(0x01020304));
        b.due("an int of 4C", x.octet(430), 1);
        Bench.act(x, 0x48, Bench.num(430), N, T);
        b.due("an int of 48", x.stack(0), 0x01020304);
    }

    private void reckoningWraps() {
        b.sentence("All numbers are ints that wrap.");
        int[][] rows = {{0x10, MAX, 1, MIN}, {0x10, MIN, -1, MAX}, {0x10, MIN, MIN, 0}, {0x10, MAX, MAX, -2},
            {0x11, MIN, 1, MAX}, {0x11, MAX, -1, MIN}, {0x11, 0, MIN, MIN}, {0x11, MIN, MAX, 1},
            {0x12, 65536, 65536, 0}, {0x12, MAX, 2, -2}, {0x12, MIN, -1, MIN}, {0x12, MAX, MAX, 1}};
        for (int[] row : rows) {
            int got = Bench.value(row[0], Bench.num(row[1]), Bench.num(row[2]));
            b.due(Integer.toHexString(row[0]) + " of " + row[1] + ", " + row[2], got, row[3]);
        }
        b.due("15 of the least", Bench.value(0x15, Bench.num(MIN)), MIN);
    }

    private void placesWrap() {
        b.sentence("All numbers are ints that wrap.");
        GlulxModes x = new GlulxModes();
        x.lay(400, 4, 0x11223344L);
        Bench.act(x, 0x48, Bench.num(400), Bench.num(0x40000000), T);
        b.due("four times a number", x.stack(0), 0x11223344);
        Bench.act(x, 0x49, Bench.num(402), Bench.num(MIN), T);
        b.due("two times a number", x.stack(0), 0x3344);
        Bench.act(x, 0x4A, Bench.num(MAX), Bench.num(MIN + 402), T);
        b.due("a sum of places", x.stack(0), 0x22);
        b.due("a sum beyond all", Bench.act(x, 0x4A, Bench.num(MAX), Bench.num(1), T), Bench.OUTSIDE);
        b.due("RAM and a number", Bench.act(x, 0x40, Bench.as(15, MAX), N), Bench.OUTSIDE);
        b.due("RAM and a number below 0", Bench.act(x, 0x40, Bench.as(15, -256), N), 1);
        Bench.act(x, 0x20, Bench.num(MAX));
        b.due("the NEXT ROW and a number", x.told(0), MAX + 20);
        Bench.act(x, 0x20, Bench.num(MIN));
        b.due("the NEXT ROW and the least", x.told(0), MIN + 20);
        Bench.Operand one = Bench.num(1);
        Bench.act(x, 0x150, Bench.num(0x33), one, Bench.num(MAX), one, one, Bench.num(MIN + 403), N, T);
        b.due("a SEARCH's place", x.stack(0), MAX);
        Bench.Operand quarter = Bench.num(0x40000000);
        Bench.act(x, 0x151, Bench.num(0x44), one, Bench.num(402), quarter, Bench.num(8), one, N, T);
        b.due("a SEARCH's place, four sizes on", x.stack(0), 402);
    }

    private void outside() {
        b.sentence("1 OUTSIDE (a byte that MEMORY has not)");
        for (int k = 0; k < 3; k++) {
            int size = new int[] {4, 2, 1}[k];
            GlulxModes x = new GlulxModes();
            int[] places = {1025 - size, 1023 + 1, 1025, 65535, -1, -size, MIN, MAX};
            for (int at : places) {
                b.due("load of " + size + " at " + at, Bench.act(x, 0x40 + k, Bench.as(7, at), N), Bench.OUTSIDE);
                b.due("store of " + size + " at " + at, Bench.act(x, 0x40 + k, N, Bench.as(7, at)), Bench.OUTSIDE);
            }
            b.due("load of the last", Bench.act(x, 0x40 + k, Bench.mem(1024 - size), N), 1);
            b.due("load of the first", Bench.act(x, 0x40 + k, Bench.mem(0), N), 1);
        }
    }

    private void under() {
        b.sentence("4 UNDER (the STACK has not so much)");
        b.due("one of none", Bench.act(Bench.pushed(), 0x40, T, N), Bench.UNDER);
        b.due("one of one", Bench.act(Bench.pushed(5), 0x40, T, N), 1);
        b.due("two of one", Bench.act(Bench.pushed(5), 0x10, T, T, N), Bench.UNDER);
        b.due("two of two", Bench.act(Bench.pushed(5, 6), 0x10, T, T, N), 1);
        b.due("seven of six", Bench.act(Bench.pushedUpTo(6), 0x150, T, T, T, T, T, T, T, N), Bench.UNDER);
        GlulxModes x = Bench.pushed(0, 0, 0, 0, 0, 1, 0);
        b.due("seven of seven", Bench.act(x, 0x150, T, T, T, T, T, T, T, N), 1);
        b.due("all are taken off", x.told(3), 0);
    }

    private void full() {
        b.sentence("5 FULL (the STACK has 40)");
        b.due("a store on 39", Bench.act(Bench.pushedUpTo(39), 0x40, N, T), 1);
        b.due("a store on 40", Bench.act(Bench.pushedUpTo(40), 0x40, N, T), Bench.FULL);
        b.due("41", Bench.act(Bench.pushedUpTo(40), 0x41, N, T), Bench.FULL);
        b.due("42", Bench.act(Bench.pushedUpTo(40), 0x42, N, T), Bench.FULL);
        b.due("50", Bench.act(Bench.pushedUpTo(40), 0x50, T), Bench.FULL);
        GlulxModes x = Bench.pushedUpTo(40);
        b.due("one is taken off before", Bench.act(x, 0x40, T, T), 1);
        b.due("forty", x.told(3), 40);
        b.due("to elsewhere", Bench.act(x, 0x40, N, Bench.loc(0)), 1);
        b.due("to nothing", Bench.act(x, 0x40, N, N), 1);
    }

    private void zero() {
        b.sentence("6 ZERO (a division by 0)");
        int[] firsts = {0, 1, -1, MIN, MAX};
        for (int first : firsts) {
            b.due("13 of " + first, Bench.value(0x13, Bench.num(first), N), Bench.ZERO);
            b.due("14 of " + first, Bench.value(0x14, Bench.num(first), N), Bench.ZERO);
        }
        b.due("0 by 1", Bench.value(0x13, N, Bench.num(1)), 0);
        b.due("0 by -1", Bench.value(0x14, N, Bench.num(-1)), 0);
    }

    private void local() {
        b.sentence("7 LOCAL (a byte that LOCALS have not)");
        GlulxModes x = new GlulxModes();
        for (int mode = 9; mode <= 11; mode++) {
            b.due("load 60", Bench.act(x, 0x40, Bench.as(mode, 60), N), 1);
            b.due("store 60", Bench.act(x, 0x40, N, Bench.as(mode, 60)), 1);
            int[] places = {61, 62, 63, 64, 255};
            for (int at : places) {
                b.due("load " + at, Bench.act(x, 0x40, Bench.as(mode, at), N), Bench.LOCAL);
                b.due("store " + at, Bench.act(x, 0x40, N, Bench.as(mode, at)), Bench.LOCAL);
            }
        }
        int[] far = {-1, -4, MIN, MAX, 65536};
        for (int at : far) {
            b.due("load " + at, Bench.act(x, 0x40, Bench.as(11, at), N), Bench.LOCAL);
            b.due("store " + at, Bench.act(x, 0x40, N, Bench.as(11, at)), Bench.LOCAL);
        }
    }

    private void fixed() {
        b.sentence("8 FIXED (a store below RAM)");
        GlulxModes x = new GlulxModes();
        x.ram(500);
        int[] modes = {6, 7};
        for (int mode : modes) {
            b.due("at RAM", Bench.act(x, 0x40, N, Bench.as(mode, 500)), 1);
            b.due("one below", Bench.act(x, 0x40, N, Bench.as(mode, 499)), Bench.FIXED);
            b.due("place 0", Bench.act(x, 0x40, N, Bench.as(mode, 0)), Bench.FIXED);
        }
        for (int mode = 13; mode <= 15; mode++) {
            b.due("at RAM", Bench.act(x, 0x40, N, Bench.as(mode, 0)), 1);
        }
        b.due("one below", Bench.act(x, 0x40, N, Bench.as(15, -1)), Bench.FIXED);
        b.due("place 0", Bench.act(x, 0x40, N, Bench.as(15, -500)), Bench.FIXED);
        b.due("below all", Bench.act(x, 0x40, N, Bench.as(15, -501)), Bench.OUTSIDE);
        b.due("a load is none", Bench.act(x, 0x40, Bench.as(15, -1), N), 1);
        b.due("a store in LOCALS is none", Bench.act(x, 0x40, N, Bench.loc(0)), 1);
    }

    /** A state in which nothing is 0, with a row at 16; four such objects can tell all of memory. */
    private static GlulxModes rich(int count, int op, Bench.Operand... operands) {
        GlulxModes x = Bench.pushedUpTo(count);
        Bench.act(x, 0x40, Bench.num(0x0A0B0C0D), Bench.loc(0));
        Bench.act(x, 0x40, Bench.num(0x0E0F1011), Bench.loc(60));
        Bench.act(x, 0x31, Bench.num(77));
        x.read(16);
        for (int at = 64; at < 1024; at += 32) {
            x.lay(at, 8, 0x2122232425262728L + at);
        }
        x.lay(1016, 8, 0x3132333435363738L);
        Bench.lay(x, 16, op, operands);
        x.go(16);
        return x;
    }

    private void unchanged(int fault, int count, int op, Bench.Operand... operands) {
        String name = "FAULT " + (-10 - fault) + " of " + Integer.toHexString(op);
        for (int from = 0; from < 1024; from += 256) {
            GlulxModes x = rich(count, op, operands);
            b.due(name, x.step(), fault);
            String want = Bench.state(rich(count, op, operands), from, from + 256);
            b.same(name + " leaves all", Bench.state(x, from, from + 256), want);
        }
    }

    private void changesNothing() {
        b.sentence("A ROW that meets one changes nothing");
        Bench.Operand one = Bench.num(1);
        unchanged(Bench.OUTSIDE, 4, 0x10, T, T, Bench.mem(1021));
        unchanged(Bench.OUTSIDE, 4, 0x10, T, Bench.mem(1021), T);
        unchanged(Bench.OUTSIDE, 4, 0x4C, T, Bench.num(300), T);
        unchanged(Bench.OUTSIDE, 4, 0x170, Bench.num(600), Bench.num(500));
        unchanged(Bench.OUTSIDE, 4, 0x171, Bench.num(100), Bench.num(300), Bench.num(1000));
        unchanged(Bench.OUTSIDE, 4, 0x150, T, one, Bench.num(1022), one, T, N, N, T);
        unchanged(Bench.OUTSIDE, 4, 0x22, N, Bench.mem(1021));
        unchanged(Bench.MODE, 4, 0x10, T, T, Bench.as(4, 0));
        unchanged(Bench.OPERATION, 4, 0x7F, T, T);
        unchanged(Bench.UNDER, 2, 0x24, T, T, T);
        unchanged(Bench.UNDER, 6, 0x151, T, T, T, T, T, T, T, T);
        unchanged(Bench.UNDER, 1, 0x52);
        unchanged(Bench.UNDER, 5, 0x53, T, T);
        unchanged(Bench.UNDER, 3, 0x54, T);
        unchanged(Bench.UNDER, 3, 0x51, T, T);
        unchanged(Bench.FULL, 40, 0x50, T);
        unchanged(Bench.FULL, 40, 0x54, one);
        unchanged(Bench.FULL, 40, 0x4A, Bench.num(1016), N, T);
        unchanged(Bench.ZERO, 4, 0x13, T, N, T);
        unchanged(Bench.ZERO, 40, 0x14, T, N, T);
        unchanged(Bench.LOCAL, 4, 0x11, T, T, Bench.loc(61));
        unchanged(Bench.LOCAL, 4, 0x11, T, Bench.loc(61), T);
        unchanged(Bench.FIXED, 4, 0x11, T, T, Bench.mem(254));
        unchanged(Bench.FIXED, 4, 0x4F, Bench.num(255), T, T);
        unchanged(Bench.FIXED, 4, 0x4C, Bench.num(253), N, T);
        unchanged(Bench.FIXED, 4, 0x170, Bench.num(300), Bench.num(255));
        unchanged(Bench.FIXED, 4, 0x171, Bench.num(300), Bench.num(600), Bench.num(255));
        unchanged(Bench.KEY, 4, 0x150, T, Bench.num(3), T, T, T, N, N, T);
        unchanged(Bench.KEY, 4, 0x151, T, Bench.num(65), T, T, T, N, one, T);
    }

    private void first(int fault, GlulxModes x, int op, Bench.Operand... operands) {
        String name = "FAULT " + (-10 - fault) + " comes first in " + Integer.toHexString(op);
        b.due(name, Bench.act(x, op, operands), fault);
    }

    private void firstOfSeveral() {
        b.sentence("of several the first in the order in which it is done.");
        Bench.Operand badLocal = Bench.loc(61);
        Bench.Operand badPlace = Bench.mem(1021);
        Bench.Operand badMode = Bench.as(12, 0);
        first(Bench.OPERATION, new GlulxModes(), 0x7F, badMode, T);
        first(Bench.MODE, new GlulxModes(), 0x10, T, badLocal, badMode);
        first(Bench.MODE, new GlulxModes(), 0x13, N, N, Bench.num(1));
        first(Bench.UNDER, new GlulxModes(), 0x10, T, badLocal, badPlace);
        first(Bench.UNDER, new GlulxModes(), 0x10, T, badPlace, badLocal);
        first(Bench.LOCAL, new GlulxModes(), 0x10, badLocal, T, badPlace);
        first(Bench.LOCAL, new GlulxModes(), 0x10, badLocal, badPlace, T);
        first(Bench.OUTSIDE, new GlulxModes(), 0x10, badPlace, T, badLocal);
        first(Bench.OUTSIDE, new GlulxModes(), 0x10, badPlace, badLocal, T);
        first(Bench.LOCAL, new GlulxModes(), 0x13, badLocal, N, badPlace);
        first(Bench.ZERO, new GlulxModes(), 0x13, N, N, badPlace);
        first(Bench.ZERO, new GlulxModes(), 0x14, N, N, badLocal);
        first(Bench.ZERO, Bench.pushedUpTo(40), 0x14, N, N, T);
        first(Bench.OUTSIDE, Bench.pushedUpTo(40), 0x40, badPlace, T);
        first(Bench.OUTSIDE, Bench.pushedUpTo(40), 0x48, Bench.num(1021), N, T);
        first(Bench.OUTSIDE, new GlulxModes(), 0x4A, Bench.num(-1), N, badLocal);
        first(Bench.UNDER, Bench.pushedUpTo(40), 0x51, Bench.num(40), T);
        first(Bench.UNDER, Bench.pushedUpTo(40), 0x51, Bench.num(-1), badPlace);
        first(Bench.KEY, Bench.pushedUpTo(40), 0x150, N, N, N, N, N, N, N, T);
        first(Bench.LOCAL, new GlulxModes(), 0x150, N, N, N, N, N, N, badLocal, badPlace);
        first(Bench.LOCAL, new GlulxModes(), 0x4C, Bench.num(-1), N, badLocal);
        first(Bench.UNDER, new GlulxModes(), 0x171, Bench.num(-1), N, T);
        first(Bench.LOCAL, new GlulxModes(), 0x53, Bench.num(-1), badLocal);
    }
}
