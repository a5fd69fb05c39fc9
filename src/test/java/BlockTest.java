/** Promise 9, operations 170 and 171: many bytes at once. */
public final class BlockTest {
    private static final int MIN = Bench.MIN, MAX = Bench.MAX;

    public static void main(String[] args) {
        Bench b = new Bench();
        zeros(b);
        copies(b);
        b.end();
    }

    private static GlulxModes filled() {
        GlulxModes x = new GlulxModes();
        for (int at = 250; at < 350; at++) {
            x.lay(at, 1, at - 200);
        }
        x.lay(1016, 8, -1L);
        return x;
    }

    private static int zero(GlulxModes x, int n, int at) {
        return Bench.act(x, 0x170, Bench.num(n), Bench.num(at));
    }

    private static int copy(GlulxModes x, int n, int from, int to) {
        return Bench.act(x, 0x171, Bench.num(n), Bench.num(from), Bench.num(to));
    }

    private static void zeros(Bench b) {
        GlulxModes x = filled();
        b.due("zero", zero(x, 5, 300), 1);
        for (int at = 250; at < 350; at++) {
            b.due("byte " + at, x.octet(at), at >= 300 && at < 305 ? 0 : at - 200);
        }
        int[] places = {0, 255, 256, 1024, 1025, -1, MIN, MAX};
        for (int at : places) {
            b.due("of none at " + at, zero(x, 0, at), 1);
            b.due("below none at " + at, zero(x, -1, at), Bench.OUTSIDE);
            b.due("least at " + at, zero(x, MIN, at), Bench.OUTSIDE);
            b.due("most at " + at, zero(x, MAX, at), Bench.OUTSIDE);
        }
        b.due("fixed", zero(x, 2, 255), Bench.FIXED);
        b.due("stays", x.octet(256), 56);
        b.due("outside", zero(x, 9, 1016), Bench.OUTSIDE);
        b.due("outside", zero(x, 1, 1024), Bench.OUTSIDE);
        b.due("outside before fixed", zero(x, 1025, 0), Bench.OUTSIDE);
        b.due("outside before fixed", zero(x, 800, 255), Bench.OUTSIDE);
        b.due("outside", zero(x, 1, -1), Bench.OUTSIDE);
        b.due("stays", x.octet(1023), 255);
        b.due("to the end", zero(x, 768, 256), 1);
        b.due("gone", x.octet(1023), 0);
        b.due("gone", x.octet(256), 0);
        b.due("below ram stays", x.octet(255), 55);
        x.ram(0);
        b.due("all", zero(x, 1024, 0), 1);
        b.due("gone", x.octet(255), 0);
    }

    private static void copies(Bench b) {
        int[][] moves = {{10, 300, 400}, {10, 300, 305}, {10, 305, 300}, {10, 300, 300}, {20, 300, 301},
            {20, 301, 300}, {6, 250, 256}, {1, 349, 1023}, {0, 300, 310}};
        for (int[] move : moves) {
            GlulxModes x = filled();
            int[] want = new int[1024];
            for (int at = 0; at < 1024; at++) {
                want[at] = at >= 250 && at < 350 ? at - 200 : at >= 1016 ? 255 : 0;
            }
            int[] before = want.clone();
            for (int k = 0; k < move[0]; k++) {
                want[move[2] + k] = before[move[1] + k];
            }
            b.due("copy", copy(x, move[0], move[1], move[2]), 1);
            for (int at = 250; at < 415; at++) {
                b.due("byte " + at, x.octet(at), want[at]);
            }
            b.due("the last", x.octet(1023), want[1023]);
        }
        GlulxModes x = filled();
        int[] places = {0, 255, 1024, 1025, -1, MIN, MAX};
        for (int at : places) {
            b.due("none from " + at, copy(x, 0, at, 300), 1);
            b.due("none to " + at, copy(x, 0, 300, at), 1);
            b.due("below none from " + at, copy(x, -1, at, 300), Bench.OUTSIDE);
            b.due("below none to " + at, copy(x, MIN, 300, at), Bench.OUTSIDE);
            b.due("most to " + at, copy(x, MAX, 300, at), Bench.OUTSIDE);
        }
        b.due("from outside", copy(x, 2, 1023, 300), Bench.OUTSIDE);
        b.due("from outside", copy(x, 1, -1, 300), Bench.OUTSIDE);
        b.due("from outside, to fixed", copy(x, 2, 1023, 0), Bench.OUTSIDE);
        b.due("to outside", copy(x, 2, 300, 1023), Bench.OUTSIDE);
        b.due("to outside", copy(x, 1, 300, -1), Bench.OUTSIDE);
        b.due("to outside before fixed", copy(x, 1000, 0, 255), Bench.OUTSIDE);
        b.due("to fixed", copy(x, 2, 300, 255), Bench.FIXED);
        b.due("stays", x.octet(255), 55);
        b.due("stays", x.octet(256), 56);
        b.due("from fixed is fine", copy(x, 2, 254, 256), 1);
        b.due("came", x.octet(257), 55);
        x.ram(0);
        b.due("all", copy(x, 1024, 0, 0), 1);
    }
}
