/** Promise 9, reckoning: operations 10 to 1E, 44, 45 and 100. */
public final class ReckonTest {
    private static final int MIN = Bench.MIN, MAX = Bench.MAX;

    public static void main(String[] args) {
        Bench b = new Bench();
        two(b, 0x10, 5, 7, 12);
        two(b, 0x10, MAX, 1, MIN);
        two(b, 0x11, 5, 7, -2);
        two(b, 0x11, MIN, 1, MAX);
        two(b, 0x12, -5, 7, -35);
        two(b, 0x12, 0x10001, 0x10001, 0x20001);
        dividing(b);
        one(b, 0x15, 5, -5);
        one(b, 0x15, 0, 0);
        one(b, 0x15, MIN, MIN);
        two(b, 0x18, 0xF0F0, 0xFF00, 0xF000);
        two(b, 0x19, 0xF0F0, 0xFF00, 0xFFF0);
        two(b, 0x1A, 0xF0F0, 0xFF00, 0x0FF0);
        one(b, 0x1B, 0, -1);
        one(b, 0x1B, 0x0F0F, 0xFFFFF0F0);
        moving(b);
        signs(b);
        abilities(b);
        order(b);
        b.end();
    }

    private static void two(Bench b, int op, int first, int second, int want) {
        String call = Integer.toHexString(op) + " of " + first + ", " + second;
        b.due(call, Bench.value(op, Bench.num(first), Bench.num(second)), want);
    }

    private static void one(Bench b, int op, int first, int want) {
        b.due(Integer.toHexString(op) + " of " + first, Bench.value(op, Bench.num(first)), want);
    }

    private static void dividing(Bench b) {
        int[][] rows = {{7, 2, 3, 1}, {-7, 2, -3, -1}, {7, -2, -3, 1}, {-7, -2, 3, -1}, {MIN, -1, MIN, 0},
            {MIN, 1, MIN, 0}, {MAX, -1, -MAX, 0}, {0, 5, 0, 0}, {3, 5, 0, 3}, {-3, 5, 0, -3}, {MIN, MAX, -1, -1}};
        for (int[] row : rows) {
            two(b, 0x13, row[0], row[1], row[2]);
            two(b, 0x14, row[0], row[1], row[3]);
        }
        int[] firsts = {0, 1, -1, MIN, MAX};
        for (int first : firsts) {
            two(b, 0x13, first, 0, Bench.ZERO);
            two(b, 0x14, first, 0, Bench.ZERO);
        }
    }

    private static void moving(Bench b) {
        for (int bits = 0; bits < 32; bits++) {
            two(b, 0x1C, 0x81234567, bits, (int) ((long) 0x81234567 * (1L << bits)));
            two(b, 0x1D, 0x81234567, bits, (int) Math.floorDiv((long) 0x81234567, 1L << bits));
            two(b, 0x1D, 0x71234567, bits, (int) (0x71234567L / (1L << bits)));
            two(b, 0x1E, 0x81234567, bits, (int) (0x81234567L / (1L << bits)));
        }
        int[] others = {32, 33, 63, 64, 256, MAX, -1, -31, -32, MIN};
        for (int bits : others) {
            two(b, 0x1C, 0x81234567, bits, 0);
            two(b, 0x1D, 0x81234567, bits, -1);
            two(b, 0x1D, 0x71234567, bits, 0);
            two(b, 0x1E, 0x81234567, bits, 0);
        }
    }

    private static void signs(Bench b) {
        one(b, 0x44, 0x12347FFF, 0x7FFF);
        one(b, 0x44, 0x12348000, -32768);
        one(b, 0x44, 0x0000FFFF, -1);
        one(b, 0x44, 0xFFFF0000, 0);
        one(b, 0x45, 0x1234567F, 0x7F);
        one(b, 0x45, 0x12345680, -128);
        one(b, 0x45, 0x000000FF, -1);
        one(b, 0x45, 0xFFFFFF00, 0);
        one(b, 0x40, 0xFFFFFF80, -128);
    }

    private static void abilities(Bench b) {
        int[] want = {0x30102, 65793, 1, 1, 0, 1, 1, 0, 0, 0, 0, 0, 0};
        for (int k = 0; k < want.length; k++) {
            two(b, 0x100, k, 0, want[k]);
            two(b, 0x100, k, 3, want[k]);
        }
        two(b, 0x100, -1, 0, 0);
        two(b, 0x100, MIN, 1, 0);
        two(b, 0x100, MAX, 1, 0);
        two(b, 0x100, 256, 1, 0);
    }

    private static void order(Bench b) {
        GlulxModes x = Bench.pushed(100, 3, 50);
        b.due("from the stack, the top first", Bench.act(x, 0x11, Bench.TOP, Bench.TOP, Bench.TOP), 1);
        b.same("stack", Bench.pile(x), "100 47");
        b.due("the second from the stack", Bench.act(x, 0x11, Bench.num(1), Bench.TOP, Bench.TOP), 1);
        b.same("stack", Bench.pile(x), "100 -46");
        b.due("to nothing", Bench.act(x, 0x10, Bench.TOP, Bench.NIL, Bench.NIL), 1);
        b.same("stack", Bench.pile(x), "100");
        b.due("operation 0", Bench.act(x, 0x00), 1);
        b.due("pc", x.told(0), 17);
        b.same("stack", Bench.pile(x), "100");
    }
}
