/** Promise 9, searches in tables: operations 150 and 151. */
public final class SearchTest {
    private static final int MIN = Bench.MIN, MAX = Bench.MAX;
    private static final int LINE = 0x150, HALVES = 0x151;
    private static final int INDIRECT = 1, ENDED = 2, PLACE = 4;

    public static void main(String[] args) {
        Bench b = new Bench();
        table(b);
        sizes(b);
        indirect(b);
        ended(b);
        many(b);
        outside(b);
        order(b);
        halves(b);
        operands(b);
        b.end();
    }

    /** Ten of six bytes at 600, each with a key of two bytes at 2: 100, 103, .. 127. */
    private static GlulxModes ten() {
        GlulxModes x = new GlulxModes();
        for (int k = 0; k < 10; k++) {
            x.lay(600 + 6 * k, 6, 0xABCD00000000L | (long) (100 + 3 * k) << 16 | 0xEF01L);
        }
        return x;
    }

    private static int search(GlulxModes x, int op, int... l) {
        Bench.Operand[] all = new Bench.Operand[8];
        for (int k = 0; k < 7; k++) {
            all[k] = Bench.num(l[k]);
        }
        all[7] = Bench.loc(0);
        int answer = Bench.act(x, op, all);
        return answer == 1 ? x.local(0) : answer;
    }

    private static void table(Bench b) {
        GlulxModes x = ten();
        int[] operations = {LINE, HALVES};
        for (int op : operations) {
            for (int k = 0; k < 10; k++) {
                x = ten();
                int key = 100 + 3 * k;
                b.due("where it begins", search(x, op, key, 2, 600, 6, 10, 2, 0), 600 + 6 * k);
                b.due("its number", search(x, op, key, 2, 600, 6, 10, 2, PLACE), k);
                b.due("none", search(x, op, key + 1, 2, 600, 6, 10, 2, 0), 0);
                b.due("none", search(x, op, key - 1, 2, 600, 6, 10, 2, PLACE), -1);
            }
            b.due("other bits", search(x, op, 127, 2, 600, 6, 10, 2, ~7), 654);
            b.due("other bits", search(x, op, 127, 2, 600, 6, 10, 2, ~7 | PLACE), 9);
            b.due("too few", search(x, op, 127, 2, 600, 6, 9, 2, PLACE), -1);
            b.due("of none", search(x, op, 100, 2, 600, 6, 0, 2, PLACE), -1);
            b.due("of none", search(x, op, 100, 2, 600, 6, 0, 2, 0), 0);
            b.due("of one", search(x, op, 100, 2, 600, 6, 1, 2, 0), 600);
            b.due("backward", search(x, op, 127, 2, 654, -6, 1, 2, PLACE), 0);
        }
        b.due("backward", search(x, LINE, 100, 2, 654, -6, 10, 2, PLACE), 9);
        b.due("backward", search(x, LINE, 100, 2, 654, -6, 10, 2, 0), 600);
        b.due("key before it", search(x, LINE, 103, 2, 612, 6, 10, -4, 0), 612);
        b.due("all the same", search(x, LINE, 100, 2, 600, 0, MAX, 2, PLACE), 0);
        b.due("all the same", search(x, HALVES, 100, 2, 600, 0, 10, 2, PLACE), 5);
        b.due("none of the same", search(x, LINE, 99, 2, 600, 0, -1, 2, PLACE), -1);
    }

    private static void sizes(Bench b) {
        GlulxModes x = new GlulxModes();
        x.lay(600, 8, 0x8182838485868788L);
        int[] operations = {LINE, HALVES};
        for (int op : operations) {
            b.due("one byte", search(x, op, 0x12345681, 1, 600, 4, 1, 0, 0), 600);
            b.due("one byte", search(x, op, 0xFFFFFF82, 1, 600, 4, 1, 1, 0), 600);
            b.due("two bytes", search(x, op, 0x12348182, 2, 600, 4, 1, 0, 0), 600);
            b.due("four bytes", search(x, op, 0x81828384, 4, 600, 4, 1, 0, 0), 600);
            b.due("four bytes", search(x, op, 0x85868788, 4, 600, 4, 2, 0, PLACE), 1);
            b.due("no part", search(x, op, 0x81828385, 4, 600, 4, 1, 0, PLACE), -1);
            int[] wrong = {0, 3, 5, 8, 64, -1, MIN, MAX};
            for (int size : wrong) {
                b.due("size " + size, search(x, op, 1, size, 600, 4, 1, 0, 0), Bench.KEY);
                b.due("even of none", search(x, op, 1, size, 600, 4, 0, 0, PLACE | ENDED), Bench.KEY);
                b.due("first of all", search(x, op, 1, size, -1, 4, 1, 0, 0), Bench.KEY);
            }
        }
    }

    private static void indirect(Bench b) {
        int[] operations = {LINE, HALVES};
        for (int op : operations) {
            GlulxModes x = new GlulxModes();
            for (int k = 0; k < 64; k++) {
                x.lay(600 + k, 1, k + 1);
                x.lay(800 + k, 1, k + 1);
            }
            int[] sizes = {1, 2, 3, 5, 31, 63, 64};
            for (int size : sizes) {
                b.due("size " + size, search(x, op, 800, size, 600, 9, 1, 0, INDIRECT), 600);
                b.due("alike in " + size, search(x, op, 801, size, 600, 9, 1, 1, INDIRECT | PLACE), 0);
            }
            x.lay(663, 1, 99L);
            b.due("all 64 count", search(x, op, 800, 64, 600, 9, 1, 0, INDIRECT | PLACE), -1);
            b.due("63 are alike", search(x, op, 800, 63, 600, 9, 1, 0, INDIRECT | PLACE), 0);
            x.lay(663, 1, 64L);
            int[] wrong = {0, 65, -1, MIN, MAX};
            for (int size : wrong) {
                b.due("size " + size, search(x, op, 800, size, 600, 9, 1, 0, INDIRECT), Bench.KEY);
                b.due("before outside", search(x, op, -5, size, 600, 9, 1, 0, INDIRECT), Bench.KEY);
            }
            b.due("key outside", search(x, op, 1021, 4, 600, 4, 1, 0, INDIRECT), Bench.OUTSIDE);
            b.due("key outside", search(x, op, -1, 1, 600, 4, 1, 0, INDIRECT), Bench.OUTSIDE);
            b.due("key outside", search(x, op, MAX, 64, 600, 4, 1, 0, INDIRECT), Bench.OUTSIDE);
            b.due("key outside, of none", search(x, op, 1024, 1, 600, 4, 0, 0, INDIRECT), Bench.OUTSIDE);
            b.due("key at the end", search(x, op, 1020, 4, 900, 4, 1, 0, INDIRECT), 900);
        }
    }

    private static void ended(Bench b) {
        GlulxModes x = ten();
        x.lay(612 + 2, 2, 0L);
        b.due("before the end", search(x, LINE, 103, 2, 600, 6, 10, 2, ENDED | PLACE), 1);
        b.due("behind the end", search(x, LINE, 109, 2, 600, 6, 10, 2, ENDED | PLACE), -1);
        b.due("behind the end", search(x, LINE, 109, 2, 600, 6, 10, 2, ENDED), 0);
        b.due("not ended", search(x, LINE, 109, 2, 600, 6, 10, 2, PLACE), 3);
        b.due("the end itself", search(x, LINE, 0, 2, 600, 6, 10, 2, ENDED | PLACE), 2);
        b.due("the end itself", search(x, LINE, 0, 2, 600, 6, 10, 2, ENDED), 612);
        x.lay(612 + 2, 2, 0x0100L);
        b.due("0 not alone", search(x, LINE, 109, 2, 600, 6, 10, 2, ENDED | PLACE), 3);
        x.lay(612 + 2, 2, 0x0001L);
        b.due("0 not alone", search(x, LINE, 109, 2, 600, 6, 10, 2, ENDED | PLACE), 3);
        x.lay(600 + 2, 2, 0L);
        b.due("the first ends it", search(x, LINE, 103, 2, 600, 6, -1, 2, ENDED | PLACE), -1);
        x.lay(630 + 2, 2, 0L);
        x.lay(600 + 2, 2, 100L);
        x.lay(612 + 2, 2, 106L);
        b.due("halves know no end", search(x, HALVES, 127, 2, 600, 6, 10, 2, ENDED | PLACE), 9);
        x = new GlulxModes();
        b.due("no key of 0 in the unended", search(x, LINE, 5, 1, 600, 1, 100, 0, ENDED), 0);
    }

    /** The key comes from a local, as the table is all of memory, the row itself too. */
    private static int searchAll(GlulxModes x, int op, int key, int howMany, int options) {
        Bench.act(x, 0x40, Bench.num(key), Bench.loc(4));
        int answer = Bench.act(x, op, Bench.loc(4), Bench.num(1), Bench.num(0), Bench.num(1), Bench.num(howMany),
            Bench.num(0), Bench.num(options), Bench.loc(0));
        return answer == 1 ? x.local(0) : answer;
    }

    private static void many(Bench b) {
        GlulxModes x = new GlulxModes();
        x.lay(1023, 1, 0xEEL);
        int[] all = {1024, 1025, -1, MIN, MAX};
        for (int n : all) {
            b.due("the last of " + n, searchAll(x, LINE, 0xEE, n, PLACE), 1023);
            b.due("the last of " + n, searchAll(x, LINE, 0xEE, n, 0), 1023);
            b.due("1024 at most, so none outside", searchAll(x, LINE, 0xDD, n, PLACE), -1);
            b.due("1024 at most, so none outside", searchAll(x, LINE, 0xDD, n, 0), 0);
            b.due("the last by halves", searchAll(x, HALVES, 0xEE, n, PLACE), 1023);
            b.due("at most 1024 by halves", searchAll(x, HALVES, 0xEF, n, PLACE), -1);
        }
        b.due("1023 are too few", searchAll(x, LINE, 0xEE, 1023, PLACE), -1);
        b.due("1023 are too few", searchAll(x, HALVES, 0xEE, 1023, PLACE), -1);
    }

    private static void outside(Bench b) {
        GlulxModes x = ten();
        b.due("found before", search(x, LINE, 100, 2, 600, 1000, 2, 2, PLACE), 0);
        b.due("met", search(x, LINE, 101, 2, 600, 1000, 2, 2, PLACE), Bench.OUTSIDE);
        b.due("met", search(x, LINE, 101, 2, 600, 420, 2, 3, PLACE), Bench.OUTSIDE);
        b.due("just inside", search(x, LINE, 101, 2, 600, 420, 2, 2, PLACE), -1);
        b.due("only the key must be there", search(x, LINE, 0, 2, 1020, 100, 1, 2, 0), 1020);
        b.due("only the key must be there", search(x, LINE, 100, 2, -400, 6, 1, 1002, PLACE), 0);
        b.due("where it begins", search(x, LINE, 100, 2, -400, 6, 1, 1002, 0), -400);
        b.due("start", search(x, LINE, 5, 1, -1, 1, 1, 0, 0), Bench.OUTSIDE);
        b.due("start", search(x, LINE, 5, 1, 1024, 1, 1, 0, 0), Bench.OUTSIDE);
        b.due("start of none", search(x, LINE, 5, 1, 1024, 1, 0, 0, 0), 0);
        b.due("ended before", search(x, LINE, 5, 1, 1023, 1, 9, 0, ENDED | PLACE), -1);
        b.due("not ended", search(x, LINE, 5, 1, 1023, 1, 9, 0, PLACE), Bench.OUTSIDE);
        b.due("wraps", search(x, LINE, 100, 2, MAX, 6, 1, MIN + 603, 0), MAX);
        b.due("wraps", search(x, LINE, 100, 2, 600, MIN, 3, 2, PLACE), 0);
        b.due("wraps", search(x, LINE, 101, 2, 600, MIN, 3, 2, PLACE), Bench.OUTSIDE);
        b.due("halves: the middle", search(x, HALVES, 100, 2, 600, 1000, 2, 2, PLACE), Bench.OUTSIDE);
        x.lay(802, 2, 500L);
        x.lay(1002, 2, 600L);
        b.due("halves: not looked at", search(x, HALVES, 100, 2, 600, 200, 5, 2, PLACE), 0);
        b.due("halves: not looked at", search(x, HALVES, 501, 2, 600, 200, 5, 2, PLACE), -1);
        b.due("halves: looked at", search(x, HALVES, 601, 2, 600, 200, 5, 2, PLACE), Bench.OUTSIDE);
        b.due("halves: start", search(x, HALVES, 5, 1, -1, 1, 1, 0, 0), Bench.OUTSIDE);
        b.due("halves: of none", search(x, HALVES, 5, 1, -1, 1, 0, 0, 0), 0);
    }

    private static void order(Bench b) {
        GlulxModes x = new GlulxModes();
        x.lay(700, 8, 0x017F80817F8080FFL);
        b.due("bytes have no signs", search(x, HALVES, 0x017F, 2, 700, 2, 4, 0, PLACE), 0);
        b.due("bytes have no signs", search(x, HALVES, 0x80FF, 2, 700, 2, 4, 0, PLACE), 3);
        x.lay(700, 8, 0x010102008000FF00L);
        int[] keys = {0x0101, 0x0200, 0x8000, 0xFF00};
        for (int k = 0; k < 4; k++) {
            b.due("the first byte first", search(x, HALVES, keys[k], 2, 700, 2, 4, 0, PLACE), k);
        }
        x.lay(700, 6, 0x050505050505L);
        b.due("the first of several", search(x, LINE, 5, 1, 700, 1, 6, 0, PLACE), 0);
        b.due("the middle of several", search(x, HALVES, 5, 1, 700, 1, 6, 0, PLACE), 3);
        b.due("the middle of several", search(x, HALVES, 5, 1, 700, 1, 5, 0, PLACE), 2);
        b.due("the middle of two", search(x, HALVES, 5, 1, 700, 1, 2, 0, PLACE), 1);
    }

    private static void halves(Bench b) {
        for (int n = 0; n <= 40; n++) {
            GlulxModes x = new GlulxModes();
            for (int k = 0; k < n; k++) {
                x.lay(700 + k, 1, 10 + 5 * k);
            }
            for (int key = 9; key < 12 + 5 * n; key += 7) {
                boolean there = (key - 10) % 5 == 0 && key >= 10 && key < 10 + 5 * n;
                b.due(key + " of " + n, search(x, HALVES, key, 1, 700, 1, n, 0, PLACE), there ? (key - 10) / 5 : -1);
            }
        }
        GlulxModes x = new GlulxModes();
        x.lay(700, 5, 0x0907050301L);
        b.due("not in order", search(x, HALVES, 9, 1, 700, 1, 5, 0, PLACE), -1);
        b.due("not in order", search(x, HALVES, 5, 1, 700, 1, 5, 0, PLACE), 2);
    }

    private static void operands(Bench b) {
        GlulxModes x = ten();
        int[] l = {PLACE, 2, 10, 6, 600, 2, 106};
        for (int v : l) {
            x.push(v);
        }
        Bench.Operand t = Bench.TOP;
        b.due("all off the stack", Bench.act(x, LINE, t, t, t, t, t, t, t, t), 1);
        b.same("stack", Bench.pile(x), "2");
        b.due("under", Bench.act(x, HALVES, t, t, t, t, t, t, t, t), Bench.UNDER);
        b.same("stack stays", Bench.pile(x), "2");
        Bench.Operand n = Bench.num(1);
        b.due("key before the store", Bench.act(x, LINE, n, Bench.num(3), n, n, n, n, Bench.NIL, Bench.mem(0)), Bench.KEY);
        b.due("the store", Bench.act(x, LINE, n, n, n, n, n, n, Bench.NIL, Bench.mem(0)), Bench.FIXED);
        b.due("to nothing", Bench.act(x, LINE, n, n, n, n, n, n, Bench.NIL, Bench.NIL), 1);
    }
}
