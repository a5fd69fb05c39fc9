/** Promise 9, moves on the stack: operations 50 to 54. */
public final class PileTest {
    private static final int MIN = Bench.MIN, MAX = Bench.MAX;

    public static void main(String[] args) {
        Bench b = new Bench();
        counting(b);
        peeking(b);
        swapping(b);
        turning(b);
        repeating(b);
        b.end();
    }

    private static void counting(Bench b) {
        GlulxModes x = Bench.pushed(9, 9);
        b.due("count", Bench.act(x, 0x50, Bench.TOP), 1);
        b.due("count", Bench.act(x, 0x50, Bench.TOP), 1);
        b.same("stack", Bench.pile(x), "9 9 2 3");
        b.due("none", Bench.value(0x50), 0);
    }

    private static void peeking(Bench b) {
        GlulxModes x = Bench.pushed(10, 20, 30);
        for (int k = 0; k < 3; k++) {
            b.due("peek", Bench.act(x, 0x51, Bench.num(k), Bench.loc(0)), 1);
            b.due("it", x.local(0), 30 - 10 * k);
        }
        int[] under = {3, 4, 40, MAX, -1, MIN};
        for (int k : under) {
            b.due("peek " + k, Bench.act(x, 0x51, Bench.num(k), Bench.loc(0)), Bench.UNDER);
        }
        b.due("to the stack", Bench.act(x, 0x51, Bench.num(1), Bench.TOP), 1);
        b.same("stack", Bench.pile(x), "10 20 30 20");
        x = Bench.pushed(10, 20, 1);
        b.due("its number off the stack first", Bench.act(x, 0x51, Bench.TOP, Bench.TOP), 1);
        b.same("stack", Bench.pile(x), "10 20 10");
        x = Bench.pushed(10, 1);
        b.due("under", Bench.act(x, 0x51, Bench.TOP, Bench.TOP), Bench.UNDER);
        b.same("stack stays", Bench.pile(x), "10 1");
        x = Bench.pushed();
        b.due("of none", Bench.act(x, 0x51, Bench.num(0), Bench.NIL), Bench.UNDER);
    }

    private static void swapping(Bench b) {
        GlulxModes x = Bench.pushed(1, 2, 3);
        b.due("swap", Bench.act(x, 0x52), 1);
        b.same("stack", Bench.pile(x), "1 3 2");
        x = Bench.pushed(1, 2);
        b.due("swap", Bench.act(x, 0x52), 1);
        b.same("stack", Bench.pile(x), "2 1");
        b.due("of one", Bench.act(Bench.pushed(1), 0x52), Bench.UNDER);
        b.due("of none", Bench.act(Bench.pushed(), 0x52), Bench.UNDER);
    }

    private static void turned(Bench b, int n, int by, String want) {
        GlulxModes x = Bench.pushed(8, 7, 6, 5, 4, 3, 2, 1, 0);
        b.due("turn", Bench.act(x, 0x53, Bench.num(n), Bench.num(by)), 1);
        b.same("turned " + n + " by " + by, Bench.pile(x), want);
    }

    private static void turning(Bench b) {
        turned(b, 5, 1, "8 7 6 5 0 4 3 2 1");
        turned(b, 5, 2, "8 7 6 5 1 0 4 3 2");
        turned(b, 9, -3, "5 4 3 2 1 0 8 7 6");
        turned(b, 5, -1, "8 7 6 5 3 2 1 0 4");
        turned(b, 5, 5, "8 7 6 5 4 3 2 1 0");
        turned(b, 5, 6, "8 7 6 5 0 4 3 2 1");
        turned(b, 5, 0, "8 7 6 5 4 3 2 1 0");
        turned(b, 3, MAX, "8 7 6 5 4 3 0 2 1");
        turned(b, 3, MIN, "8 7 6 5 4 3 0 2 1");
        turned(b, 1, 7, "8 7 6 5 4 3 2 1 0");
        turned(b, 0, 7, "8 7 6 5 4 3 2 1 0");
        turned(b, 0, MIN, "8 7 6 5 4 3 2 1 0");
        GlulxModes x = Bench.pushed(1, 2, 3);
        int[] under = {4, 41, MAX, -1, MIN};
        for (int n : under) {
            b.due("turn " + n, Bench.act(x, 0x53, Bench.num(n), Bench.num(1)), Bench.UNDER);
            b.due("by nothing", Bench.act(x, 0x53, Bench.num(n), Bench.NIL), Bench.UNDER);
        }
        b.same("stack stays", Bench.pile(x), "1 2 3");
        b.due("of none", Bench.act(Bench.pushed(), 0x53, Bench.NIL, Bench.num(1)), 1);
        x = Bench.pushed(1, 2, 3, 1, 3);
        b.due("numbers off the stack first", Bench.act(x, 0x53, Bench.TOP, Bench.TOP), 1);
        b.same("stack", Bench.pile(x), "3 1 2");
        x = Bench.pushed(1, 2, 3, 1, 4);
        b.due("under", Bench.act(x, 0x53, Bench.TOP, Bench.TOP), Bench.UNDER);
        b.same("stack stays", Bench.pile(x), "1 2 3 1 4");
        x = new GlulxModes();
        for (int k = 0; k < 40; k++) {
            x.push(k);
        }
        b.due("all forty", Bench.act(x, 0x53, Bench.num(40), Bench.num(39)), 1);
        b.due("top", x.stack(0), 0);
        b.due("lowest", x.stack(39), 1);
    }

    private static void repeating(Bench b) {
        GlulxModes x = Bench.pushed(1, 2, 3);
        b.due("two more", Bench.act(x, 0x54, Bench.num(2)), 1);
        b.same("stack", Bench.pile(x), "1 2 3 2 3");
        b.due("none more", Bench.act(x, 0x54, Bench.num(0)), 1);
        b.same("stack", Bench.pile(x), "1 2 3 2 3");
        int[] under = {6, 41, MAX, -1, MIN};
        for (int n : under) {
            b.due("repeat " + n, Bench.act(x, 0x54, Bench.num(n)), Bench.UNDER);
        }
        b.due("its number off the stack first", Bench.act(Bench.pushed(5, 2), 0x54, Bench.TOP), Bench.UNDER);
        x = Bench.pushed(4, 5, 2);
        b.due("its number off the stack first", Bench.act(x, 0x54, Bench.TOP), 1);
        b.same("stack", Bench.pile(x), "4 5 4 5");
        x = new GlulxModes();
        for (int k = 0; k < 20; k++) {
            x.push(k);
        }
        b.due("up to forty", Bench.act(x, 0x54, Bench.num(20)), 1);
        b.due("count", x.told(3), 40);
        b.due("lowest of the new", x.stack(19), 0);
        b.due("top", x.stack(0), 19);
        b.due("full", Bench.act(x, 0x54, Bench.num(1)), Bench.FULL);
        b.due("full", Bench.act(x, 0x54, Bench.num(40)), Bench.FULL);
        b.due("under first", Bench.act(x, 0x54, Bench.num(41)), Bench.UNDER);
        b.due("none more", Bench.act(x, 0x54, Bench.num(0)), 1);
        x.clear();
        for (int k = 0; k < 21; k++) {
            x.push(k);
        }
        b.due("one too many", Bench.act(x, 0x54, Bench.num(20)), Bench.FULL);
        b.due("count stays", x.told(3), 21);
        b.due("nineteen", Bench.act(x, 0x54, Bench.num(19)), 1);
        b.due("count", x.told(3), 40);
    }
}
