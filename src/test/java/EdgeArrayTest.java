/** Terms 3, arrays, moves on the stack and blocks: the sentences that name a boundary case, one by one. */
public final class EdgeArrayTest {
    private static final int MIN = Bench.MIN, MAX = Bench.MAX;
    private static final Bench.Operand T = Bench.TOP;
    private static final Bench.Operand N = Bench.NIL;
    private static final int[] SIZES = {4, 2, 1};

    private final Bench b = new Bench();

    public static void main(String[] args) {
        EdgeArrayTest t = new EdgeArrayTest();
        t.copies();
        t.arraysLoaded();
        t.arraysHaveNoSign();
        t.bitsLoaded();
        t.arraysLaid();
        t.lowestBytesLaid();
        t.bitsLaid();
        t.howMany();
        t.fromTheTop();
        t.upperTwo();
        t.turned();
        t.turnedUnder();
        t.onceMore();
        t.onceMoreUnder();
        t.onceMoreFull();
        t.zeros();
        t.zerosOfNone();
        t.blocks();
        t.blocksAsBefore();
        t.blocksOfNone();
        t.b.end();
    }

    private static int num(GlulxModes x, int op, int... l) {
        Bench.Operand[] all = new Bench.Operand[l.length];
        for (int k = 0; k < l.length; k++) {
            all[k] = Bench.num(l[k]);
        }
        return Bench.act(x, op, all);
    }

    /** What a row of two loads stores, or its fault. */
    private static int loaded(GlulxModes x, int op, int first, int second) {
        int answer = Bench.act(x, op, Bench.num(first), Bench.num(second), Bench.loc(0));
        return answer == 1 ? x.local(0) : answer;
    }

    private void copies() {
        b.sentence("40, 41 (copys), 42 (copyb): l to s.");
        GlulxModes x = new GlulxModes();
        x.lay(1020, 4, 0x81828384L);
        for (int k = 0; k < 3; k++) {
            int last = 1024 - SIZES[k];
            b.due("from the end of MEMORY", Bench.act(x, 0x40 + k, Bench.mem(last), Bench.mem(256)), 1);
            b.due("to RAM", Bench.word(x, 256) >>> 32 - 8 * SIZES[k], 0x81828384 << 32 - 8 * SIZES[k] >>> 32 - 8 * SIZES[k]);
            b.due("back", Bench.act(x, 0x40 + k, Bench.mem(256), Bench.mem(last)), 1);
            b.due("as it was", Bench.word(x, 1020), 0x81828384);
        }
    }

    private void arraysLoaded() {
        b.sentence("48 what lies at l + 4 l, 49 two bytes at l + 2 l, 4A the byte at l + l, to s");
        GlulxModes x = new GlulxModes();
        x.lay(0, 8, 0x0102030405060708L);
        x.lay(1016, 8, 0x1112131415161718L);
        int[][] rows = {{0x48, 0, 0, 0x01020304}, {0x48, 4, -1, 0x01020304}, {0x48, 1, 0, 0x02030405},
            {0x48, 0, 255, 0x15161718}, {0x48, 1020, 0, 0x15161718}, {0x48, 1024, -2, 0x11121314},
            {0x48, 0, 0x40000000, 0x01020304}, {0x48, 4, MAX, 0x01020304}, {0x48, -4, 1, 0x01020304},
            {0x49, 0, 0, 0x0102}, {0x49, 0, 511, 0x1718}, {0x49, 2, -1, 0x0102}, {0x49, 1, 0, 0x0203},
            {0x49, 1024, -1, 0x1718}, {0x49, 0, MIN, 0x0102}, {0x49, 2, MAX, 0x0102}, {0x49, -2, 1, 0x0102},
            {0x4A, 0, 0, 1}, {0x4A, 0, 1023, 0x18}, {0x4A, 1023, 0, 0x18}, {0x4A, 1024, -1, 0x18}, {0x4A, -1, 1, 1},
            {0x4A, MIN, MIN, 1}, {0x4A, MAX, MIN + 2, 2}};
        for (int[] row : rows) {
            String call = Integer.toHexString(row[0]) + " of " + row[1] + ", " + row[2];
            b.due(call, loaded(x, row[0], row[1], row[2]), row[3]);
        }
        int[][] outside = {{0x48, 1021, 0}, {0x48, 0, 256}, {0x48, 0, -1}, {0x48, 3, -1}, {0x48, -1, 0}, {0x48, MAX, 0},
            {0x48, MIN, 0}, {0x49, 1023, 0}, {0x49, 0, 512}, {0x49, 0, -1}, {0x49, 1, -1}, {0x49, -1, 0}, {0x49, MAX, 0},
            {0x4A, 1024, 0}, {0x4A, 0, 1024}, {0x4A, 0, -1}, {0x4A, -1, 0}, {0x4A, MAX, 1}, {0x4A, MIN, 0}};
        for (int[] row : outside) {
            String call = Integer.toHexString(row[0]) + " of " + row[1] + ", " + row[2];
            b.due(call, loaded(x, row[0], row[1], row[2]), Bench.OUTSIDE);
        }
    }

    private void arraysHaveNoSign() {
        b.sentence("to s (no sign; of four with)");
        GlulxModes x = new GlulxModes();
        x.lay(400, 4, 0xFFFEFDFCL);
        b.due("48", loaded(x, 0x48, 400, 0), 0xFFFEFDFC);
        b.due("49", loaded(x, 0x49, 400, 0), 0xFFFE);
        b.due("4A", loaded(x, 0x4A, 400, 0), 0xFF);
    }

    private void bitsLoaded() {
        b.sentence("byte l + (the second l by 8, rounded down), bit (the second modulo 8), 0 the lowest: 0, 1 to s");
        GlulxModes x = new GlulxModes();
        x.lay(400, 4, 0x018001FFL);
        int[][] rows = {{401, 7, 1}, {401, 6, 0}, {401, 0, 0}, {401, 8, 1}, {401, 9, 0}, {401, 16, 1}, {401, 23, 1},
            {401, -1, 0}, {401, -7, 0}, {401, -8, 1}, {401, -9, 0}, {402, -1, 1}, {402, -9, 0}, {402, -16, 1},
            {400, 15, 1}, {400, 14, 0}, {403, 0, 1}, {403, 7, 1}, {404, -1, 1}, {404, -8, 1}, {404, 0, 0}};
        for (int[] row : rows) {
            b.due("bit " + row[1] + " from " + row[0], loaded(x, 0x4B, row[0], row[1]), row[2]);
        }
        b.due("the last bit", loaded(x, 0x4B, 0, 8191), 0);
        b.due("behind it", loaded(x, 0x4B, 0, 8192), Bench.OUTSIDE);
        b.due("the first bit", loaded(x, 0x4B, 1, -8), 0);
        b.due("before it", loaded(x, 0x4B, 1, -9), Bench.OUTSIDE);
        b.due("before it", loaded(x, 0x4B, 0, -1), Bench.OUTSIDE);
        b.due("from -1 on", loaded(x, 0x4B, -1, 8 * 403), 1);
        b.due("from -1 on, byte 0", loaded(x, 0x4B, -1, 8), 0);
        b.due("at -1, bit 7", loaded(x, 0x4B, -1, 7), Bench.OUTSIDE);
        b.due("the least", loaded(x, 0x4B, 400 + (1 << 28), MIN), 1);
        b.due("the greatest", loaded(x, 0x4B, 401 - (1 << 28) + 1, MAX), 1);
        b.due("the greatest, a byte before", loaded(x, 0x4B, 400 - (1 << 28) + 1, MAX), 0);
    }

    private void arraysLaid() {
        b.sentence("4C, 4D, 4E, 4F: likewise, the third l is laid there");
        int[][] rows = {{0x4C, 256, 0}, {0x4C, 0, 64}, {0x4C, 1024, -1}, {0x4C, -4, 256}, {0x4C, 300, 0x40000000},
            {0x4D, 256, 0}, {0x4D, 0, 128}, {0x4D, 1024, -1}, {0x4D, -2, 512}, {0x4D, 300, MIN},
            {0x4E, 256, 0}, {0x4E, 0, 256}, {0x4E, 1024, -1}, {0x4E, -1, 1024}, {0x4E, MIN, MIN + 300}};
        for (int[] row : rows) {
            GlulxModes x = new GlulxModes();
            int size = SIZES[row[0] - 0x4C];
            int at = row[1] + size * row[2];
            String call = Integer.toHexString(row[0]) + " of " + row[1] + ", " + row[2];
            b.due(call, num(x, row[0], row[1], row[2], -1), 1);
            b.due(call + " first", x.octet(at), 255);
            b.due(call + " last", x.octet(at + size - 1), 255);
            b.due(call + " before", x.octet(at - 1), 0);
            b.due(call + " behind", x.octet(at + size), at + size < 1024 ? 0 : -1);
        }
        int[][] faults = {{0x4C, 1021, 0, Bench.OUTSIDE}, {0x4C, 1020, 1, Bench.OUTSIDE}, {0x4C, 0, -1, Bench.OUTSIDE},
            {0x4C, 255, 0, Bench.FIXED}, {0x4C, 256, -1, Bench.FIXED}, {0x4C, 0, 0, Bench.FIXED},
            {0x4D, 1023, 0, Bench.OUTSIDE}, {0x4D, 1022, 1, Bench.OUTSIDE}, {0x4D, 1, -1, Bench.OUTSIDE},
            {0x4D, 255, 0, Bench.FIXED}, {0x4D, 256, -1, Bench.FIXED}, {0x4E, 1024, 0, Bench.OUTSIDE},
            {0x4E, 1023, 1, Bench.OUTSIDE}, {0x4E, 0, -1, Bench.OUTSIDE}, {0x4E, 255, 0, Bench.FIXED},
            {0x4E, 256, -1, Bench.FIXED}, {0x4F, 1024, 0, Bench.OUTSIDE}, {0x4F, 1023, 8, Bench.OUTSIDE},
            {0x4F, 0, -1, Bench.OUTSIDE}, {0x4F, 255, 7, Bench.FIXED}, {0x4F, 256, -1, Bench.FIXED},
            {0x4F, 0, 0, Bench.FIXED}};
        GlulxModes x = new GlulxModes();
        for (int[] row : faults) {
            String call = Integer.toHexString(row[0]) + " of " + row[1] + ", " + row[2];
            b.due(call, num(x, row[0], row[1], row[2], -1), row[3]);
        }
        b.due("nothing is laid below RAM", x.octet(255), 0);
        b.due("nor at RAM", x.octet(256), 0);
        b.due("nor at the end", x.octet(1023), 0);
    }

    private void lowestBytesLaid() {
        b.sentence("the third l is laid there (its lowest bytes");
        int[] numbers = {0, -1, 0x12345678, 0x100, 0x10000, MIN, MAX};
        for (int number : numbers) {
            for (int k = 0; k < 3; k++) {
                GlulxModes x = new GlulxModes();
                x.lay(400, 8, 0x5555555555555555L);
                num(x, 0x4C + k, 402, 0, number);
                long all = 0x5555555555555555L;
                long mask = (1L << 8 * SIZES[k]) - 1;
                int up = 8 * (6 - SIZES[k]);
                all = all & ~(mask << up) | (number & mask) << up;
                b.due("the first four of " + number, Bench.word(x, 400), (int) (all >> 32));
                b.due("the last four of " + number, Bench.word(x, 404), (int) all);
            }
        }
    }

    private void bitsLaid() {
        b.sentence("of 4F: 1 if it is not 0");
        int[] thirds = {1, -1, 2, 256, 0x10000, MIN, MAX};
        for (int third : thirds) {
            GlulxModes x = new GlulxModes();
            num(x, 0x4F, 400, 3, third);
            b.due("a bit of 0 by " + third, x.octet(400), 8);
        }
        for (int bit = -9; bit <= 16; bit++) {
            int at = 400 + Math.floorDiv(bit, 8);
            int mask = 1 << Math.floorMod(bit, 8);
            GlulxModes x = new GlulxModes();
            b.due("bit " + bit, num(x, 0x4F, 400, bit, 1), 1);
            for (int k = 397; k < 405; k++) {
                b.due("bit " + bit + " at " + k, x.octet(k), k == at ? mask : 0);
            }
            x.lay(397, 8, -1L);
            b.due("bit " + bit, num(x, 0x4F, 400, bit, 0), 1);
            for (int k = 397; k < 405; k++) {
                b.due("no bit " + bit + " at " + k, x.octet(k), k == at ? 255 - mask : 255);
            }
        }
        GlulxModes x = new GlulxModes();
        b.due("the first bit of RAM", num(x, 0x4F, 0, 2048, 1), 1);
        b.due("it", x.octet(256), 1);
        b.due("the bit before it", num(x, 0x4F, 0, 2047, 1), Bench.FIXED);
        b.due("the last bit", num(x, 0x4F, 0, 8191, 1), 1);
        b.due("it", x.octet(1023), 128);
        b.due("the bit behind it", num(x, 0x4F, 0, 8192, 1), Bench.OUTSIDE);
    }

    private void howMany() {
        b.sentence("50 how many the STACK has, to s.");
        GlulxModes x = new GlulxModes();
        b.due("of none", Bench.act(x, 0x50, T), 1);
        b.due("of one", Bench.act(x, 0x50, T), 1);
        b.same("before the store", Bench.pile(x), "0 1");
        x = Bench.pushedUpTo(40);
        b.due("of forty", Bench.act(x, 0x50, Bench.loc(0)), 1);
        b.due("forty", x.local(0), 40);
    }

    private void fromTheTop() {
        b.sentence("51 the l-th of the STACK from the top (0) to s; UNDER (also l below 0).");
        GlulxModes x = Bench.pushedUpTo(40);
        int[][] rows = {{0, 40}, {1, 39}, {38, 2}, {39, 1}};
        for (int[] row : rows) {
            b.due("of forty", Bench.act(x, 0x51, Bench.num(row[0]), Bench.loc(0)), 1);
            b.due("the one " + row[0] + " from the top", x.local(0), row[1]);
        }
        int[] under = {40, 41, MAX, -1, -2, -40, MIN};
        for (int k : under) {
            b.due("the one " + k, Bench.act(x, 0x51, Bench.num(k), Bench.loc(0)), Bench.UNDER);
        }
        b.due("forty stay", x.told(3), 40);
        b.due("0 of none", Bench.act(Bench.pushed(), 0x51, N, N), Bench.UNDER);
        b.due("0 of one", Bench.act(Bench.pushed(5), 0x51, N, N), 1);
        b.due("1 of one", Bench.act(Bench.pushed(5), 0x51, Bench.num(1), N), Bench.UNDER);
        x = Bench.pushed(5, 0);
        b.due("l itself is taken off before", Bench.act(x, 0x51, T, T), 1);
        b.same("STACK", Bench.pile(x), "5 5");
        b.due("none is left", Bench.act(Bench.pushed(0), 0x51, T, N), Bench.UNDER);
    }

    private void upperTwo() {
        b.sentence("52 the upper two change places; UNDER.");
        b.due("of none", Bench.act(Bench.pushed(), 0x52), Bench.UNDER);
        GlulxModes x = Bench.pushed(5);
        b.due("of one", Bench.act(x, 0x52), Bench.UNDER);
        b.same("STACK", Bench.pile(x), "5");
        x = Bench.pushed(5, 6);
        b.due("of two", Bench.act(x, 0x52), 1);
        b.same("STACK", Bench.pile(x), "6 5");
        x = Bench.pushedUpTo(40);
        b.due("of forty", Bench.act(x, 0x52), 1);
        b.due("the top", x.stack(0), 39);
        b.due("the next", x.stack(1), 40);
        b.due("the third", x.stack(2), 38);
    }

    private void turn(int n, int by, String want) {
        GlulxModes x = Bench.pushed(1, 2, 3, 4, 5);
        b.due("turn " + n + " by " + by, num(x, 0x53, n, by), 1);
        b.same("turned " + n + " by " + by, Bench.pile(x), want);
    }

    private void turned() {
        b.sentence("53 the upper l are turned up by the second l places (down, if it is below 0): the one at the"
            + " top comes by one to the lowest of them");
        turn(3, 1, "1 2 5 3 4");
        turn(3, -1, "1 2 4 5 3");
        turn(3, 2, "1 2 4 5 3");
        turn(3, -2, "1 2 5 3 4");
        turn(3, 0, "1 2 3 4 5");
        turn(3, 3, "1 2 3 4 5");
        turn(3, -3, "1 2 3 4 5");
        turn(3, 4, "1 2 5 3 4");
        turn(3, -4, "1 2 4 5 3");
        turn(5, 1, "5 1 2 3 4");
        turn(5, -1, "2 3 4 5 1");
        turn(5, MAX, "4 5 1 2 3");
        turn(5, MIN, "4 5 1 2 3");
        turn(4, MAX, "1 3 4 5 2");
        turn(4, MIN, "1 2 3 4 5");
        turn(2, 1, "1 2 3 5 4");
        turn(1, 1, "1 2 3 4 5");
        turn(1, MIN, "1 2 3 4 5");
        turn(0, 1, "1 2 3 4 5");
        turn(0, 0, "1 2 3 4 5");
        GlulxModes x = Bench.pushedUpTo(40);
        b.due("forty by one", num(x, 0x53, 40, 1), 1);
        b.due("the lowest", x.stack(39), 40);
        b.due("the top", x.stack(0), 39);
        b.due("forty back", num(x, 0x53, 40, -1), 1);
        b.due("the lowest", x.stack(39), 1);
        b.due("the top", x.stack(0), 40);
    }

    private void turnedUnder() {
        b.sentence("UNDER: there are not l (also l below 0).");
        int[] under = {4, 5, 41, MAX, -1, -3, MIN};
        for (int n : under) {
            GlulxModes x = Bench.pushed(1, 2, 3);
            b.due("turn " + n, num(x, 0x53, n, 1), Bench.UNDER);
            b.due("turn " + n + " by 0", num(x, 0x53, n, 0), Bench.UNDER);
            b.same("STACK", Bench.pile(x), "1 2 3");
        }
        b.due("all three", num(Bench.pushed(1, 2, 3), 0x53, 3, 1), 1);
        b.due("0 of none", num(Bench.pushed(), 0x53, 0, 1), 1);
        b.due("1 of none", num(Bench.pushed(), 0x53, 1, 1), Bench.UNDER);
        GlulxModes x = Bench.pushed(1, 2, 3, 1, 4);
        b.due("when both l are taken off", Bench.act(x, 0x53, T, T), Bench.UNDER);
        b.same("they are there again", Bench.pile(x), "1 2 3 1 4");
        x = Bench.pushed(1, 2, 3, 1, 3);
        b.due("when both l are taken off", Bench.act(x, 0x53, T, T), 1);
        b.same("STACK", Bench.pile(x), "3 1 2");
    }

    private void onceMore() {
        b.sentence("54 the upper l come on it once more, in their order");
        String[] wants = {"1 2 3", "1 2 3 3", "1 2 3 2 3", "1 2 3 1 2 3"};
        for (int n = 0; n <= 3; n++) {
            GlulxModes x = Bench.pushed(1, 2, 3);
            b.due("54 of " + n, num(x, 0x54, n), 1);
            b.same("STACK", Bench.pile(x), wants[n]);
        }
    }

    private void onceMoreUnder() {
        b.sentence("UNDER (likewise), FULL.");
        int[] under = {4, 40, 41, MAX, -1, MIN};
        for (int n : under) {
            GlulxModes x = Bench.pushed(1, 2, 3);
            b.due("54 of " + n, num(x, 0x54, n), Bench.UNDER);
            b.same("STACK", Bench.pile(x), "1 2 3");
        }
        b.due("1 of none", num(Bench.pushed(), 0x54, 1), Bench.UNDER);
        b.due("0 of none", num(Bench.pushed(), 0x54, 0), 1);
        b.due("UNDER before FULL", num(Bench.pushedUpTo(30), 0x54, 31), Bench.UNDER);
        b.due("UNDER before FULL", num(Bench.pushedUpTo(40), 0x54, 41), Bench.UNDER);
        b.due("UNDER before FULL", num(Bench.pushedUpTo(40), 0x54, -1), Bench.UNDER);
    }

    private void onceMoreFull() {
        b.sentence("UNDER (likewise), FULL.");
        GlulxModes x = Bench.pushedUpTo(20);
        b.due("20 of 20", num(x, 0x54, 20), 1);
        b.due("forty", x.told(3), 40);
        b.due("the top", x.stack(0), 20);
        b.due("the lowest of the new", x.stack(19), 1);
        b.due("0 of forty", num(x, 0x54, 0), 1);
        b.due("1 of forty", num(x, 0x54, 1), Bench.FULL);
        b.due("forty of forty", num(x, 0x54, 40), Bench.FULL);
        x = Bench.pushedUpTo(21);
        b.due("20 of 21", num(x, 0x54, 20), Bench.FULL);
        b.due("none has come", x.told(3), 21);
        b.due("19 of 21", num(x, 0x54, 19), 1);
        b.due("forty", x.told(3), 40);
        x = Bench.pushedUpTo(39);
        b.due("2 of 39", num(x, 0x54, 2), Bench.FULL);
        x.push(1);
        b.due("1 of forty, l being taken off before", Bench.act(x, 0x54, T), 1);
        b.due("forty", x.told(3), 40);
        b.due("the top", x.stack(0), 39);
    }

    private static GlulxModes marked() {
        GlulxModes x = new GlulxModes();
        for (int at = 248; at < 312; at += 8) {
            x.lay(at, 8, 0x0101010101010101L * (at / 8));
        }
        x.lay(1016, 8, 0x6162636465666768L);
        return x;
    }

    private void zeros() {
        b.sentence("170 l bytes from l on become 0");
        GlulxModes x = marked();
        b.due("one", num(x, 0x170, 1, 260), 1);
        b.due("before", x.octet(259), 32);
        b.due("it", x.octet(260), 0);
        b.due("behind", x.octet(261), 32);
        b.due("at RAM", num(x, 0x170, 2, 256), 1);
        b.due("below RAM", x.octet(255), 31);
        b.due("at RAM", x.octet(256), 0);
        b.due("up to the end", num(x, 0x170, 8, 1016), 1);
        b.due("the last", x.octet(1023), 0);
        x = marked();
        b.due("all of RAM", num(x, 0x170, 768, 256), 1);
        b.due("the first", x.octet(256), 0);
        b.due("the last", x.octet(1023), 0);
        b.due("below RAM", x.octet(255), 31);
        x = marked();
        b.due("one more than there is", num(x, 0x170, 769, 256), Bench.OUTSIDE);
        b.due("one too far", num(x, 0x170, 1, 1024), Bench.OUTSIDE);
        b.due("below all", num(x, 0x170, 1, -1), Bench.OUTSIDE);
        b.due("far", num(x, 0x170, 1, MAX), Bench.OUTSIDE);
        b.due("far below", num(x, 0x170, 1, MIN), Bench.OUTSIDE);
        b.due("very many", num(x, 0x170, MAX, 256), Bench.OUTSIDE);
        b.due("very many, far", num(x, 0x170, MAX, MAX), Bench.OUTSIDE);
        b.due("below RAM", num(x, 0x170, 1, 255), Bench.FIXED);
        b.due("partly below RAM", num(x, 0x170, 2, 255), Bench.FIXED);
        b.due("OUTSIDE before FIXED", num(x, 0x170, 770, 255), Bench.OUTSIDE);
        b.due("the last stays", x.octet(1023), 0x68);
        b.due("below RAM stays", x.octet(255), 31);
        b.due("RAM stays", x.octet(256), 32);
        x.ram(0);
        b.due("all of MEMORY", num(x, 0x170, 1024, 0), 1);
        b.due("below 256", x.octet(255), 0);
        b.due("the last", x.octet(1023), 0);
    }

    private void zerosOfNone() {
        b.sentence("(l below 0: OUTSIDE; of 0 bytes nothing)");
        GlulxModes x = marked();
        int[] places = {0, 255, 256, 300, 1023, 1024, 1025, -1, MIN, MAX};
        for (int at : places) {
            b.due("of 0 at " + at, num(x, 0x170, 0, at), 1);
            b.due("of -1 at " + at, num(x, 0x170, -1, at), Bench.OUTSIDE);
            b.due("of the least at " + at, num(x, 0x170, MIN, at), Bench.OUTSIDE);
            b.due("of -768 at " + at, num(x, 0x170, -768, at), Bench.OUTSIDE);
        }
        b.due("RAM stays", x.octet(256), 32);
        b.due("the last stays", x.octet(1023), 0x68);
    }

    private void blocks() {
        b.sentence("171 l bytes from l on come to l and on");
        GlulxModes x = marked();
        b.due("one", num(x, 0x171, 1, 1023, 256), 1);
        b.due("it", x.octet(256), 0x68);
        b.due("behind it", x.octet(257), 32);
        b.due("up to the end", num(x, 0x171, 2, 255, 1022), 1);
        b.due("the one before the last", x.octet(1022), 31);
        b.due("the last", x.octet(1023), 0x68);
        b.due("before them", x.octet(1021), 0x66);
        b.due("from the first byte", num(x, 0x171, 768, 0, 256), 1);
        b.due("from below RAM", x.octet(256 + 255), 31);
        x = marked();
        int[][] outside = {{1, 1024, 300}, {2, 1023, 300}, {1, -1, 300}, {1, MAX, 300}, {1, MIN, 300}, {1, 300, 1024},
            {2, 300, 1023}, {1, 300, -1}, {1, 300, MAX}, {1, 300, MIN}, {769, 0, 256}, {769, 256, 255}, {MAX, 0, 256},
            {1025, 0, 0}, {2, 1023, 0}, {770, 0, 255}};
        for (int[] row : outside) {
            String call = row[0] + " from " + row[1] + " to " + row[2];
            b.due(call, num(x, 0x171, row), Bench.OUTSIDE);
        }
        b.due("to below RAM", num(x, 0x171, 1, 300, 255), Bench.FIXED);
        b.due("to partly below RAM", num(x, 0x171, 3, 300, 254), Bench.FIXED);
        b.due("to itself, below RAM", num(x, 0x171, 1, 0, 0), Bench.FIXED);
        b.due("RAM stays", x.octet(256), 32);
        b.due("below RAM stays", x.octet(255), 31);
        b.due("the last stays", x.octet(1023), 0x68);
    }

    private void blocksAsBefore() {
        b.sentence("171 l bytes from l on come to l and on (as they were before");
        int[][] moves = {{8, 300, 301}, {8, 301, 300}, {8, 300, 307}, {8, 307, 300}, {8, 300, 308}, {8, 300, 300}};
        for (int[] move : moves) {
            GlulxModes x = new GlulxModes();
            int[] before = new int[30];
            for (int k = 0; k < 30; k++) {
                before[k] = 11 + 7 * k;
                x.lay(295 + k, 1, before[k]);
            }
            b.due("done", num(x, 0x171, move), 1);
            for (int k = 0; k < 30; k++) {
                int into = 295 + k - move[2];
                int want = into >= 0 && into < 8 ? before[move[1] + into - 295] : before[k];
                b.due("from " + move[1] + " to " + move[2] + " byte " + k, x.octet(295 + k), want);
            }
        }
    }

    private void blocksOfNone() {
        b.sentence("(as they were before; likewise)");
        GlulxModes x = marked();
        int[] places = {0, 255, 1024, 1025, -1, MIN, MAX};
        for (int at : places) {
            b.due("0 from " + at, num(x, 0x171, 0, at, 300), 1);
            b.due("0 to " + at, num(x, 0x171, 0, 300, at), 1);
            b.due("0 from and to " + at, num(x, 0x171, 0, at, at), 1);
            b.due("-1 from " + at, num(x, 0x171, -1, at, 300), Bench.OUTSIDE);
            b.due("-1 to " + at, num(x, 0x171, -1, 300, at), Bench.OUTSIDE);
            b.due("the least to " + at, num(x, 0x171, MIN, 300, at), Bench.OUTSIDE);
        }
        b.due("RAM stays", x.octet(256), 32);
        b.due("it stays", x.octet(300), 37);
    }
}
