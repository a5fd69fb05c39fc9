/** Terms 3, reckoning, branches and ends: the sentences that name a boundary case, one by one. */
public final class EdgeReckonTest {
    private static final int MIN = Bench.MIN, MAX = Bench.MAX;
    private static final Bench.Operand T = Bench.TOP;
    private static final Bench.Operand N = Bench.NIL;

    private final Bench b = new Bench();

    public static void main(String[] args) {
        EdgeReckonTest t = new EdgeReckonTest();
        t.nothing();
        t.plusMinusTimes();
        t.division();
        t.rest();
        t.lessThanNothing();
        t.bits();
        t.movedUp();
        t.movedDownWithSign();
        t.movedDown();
        t.behindEachRow();
        t.doneByBranches();
        t.placesOfBranches();
        t.always();
        t.zeroOrNot();
        t.withSigns();
        t.withoutSigns();
        t.jump();
        t.ends();
        t.lowestBits();
        t.abilities();
        t.b.end();
    }

    private void one(int op, int first, int want) {
        b.due(Integer.toHexString(op) + " of " + first, Bench.value(op, Bench.num(first)), want);
    }

    private void two(int op, int first, int second, int want) {
        String call = Integer.toHexString(op) + " of " + first + ", " + second;
        b.due(call, Bench.value(op, Bench.num(first), Bench.num(second)), want);
    }

    private void nothing() {
        b.sentence("0 nothing.");
        GlulxModes x = Bench.pushed(5, 6);
        b.due("done", Bench.act(x, 0x00), 1);
        b.same("STACK", Bench.pile(x), "5 6");
        b.due("PC", x.told(0), 17);
        b.due("ROWS", x.told(6), 1);
        b.due("LOCALS", x.local(0), 0);
    }

    private void plusMinusTimes() {
        b.sentence("10 l + l to s. 11 l - l. 12 l * l.");
        two(0x10, MAX, 0, MAX);
        two(0x10, MAX, 1, MIN);
        two(0x10, -1, 1, 0);
        two(0x11, 0, 1, -1);
        two(0x11, MIN, 0, MIN);
        two(0x11, MIN, 1, MAX);
        two(0x11, 3, 10, -7);
        two(0x12, MIN, -1, MIN);
        two(0x12, MAX, MAX, 1);
        two(0x12, 46341, 46341, -2147479015);
        two(0x12, 0, MIN, 0);
    }

    private void division() {
        b.sentence("13 l by l, cut toward 0 (the least by -1: the least); ZERO.");
        two(0x13, MIN, -1, MIN);
        two(0x13, MIN + 1, -1, MAX);
        two(0x13, MIN, 1, MIN);
        two(0x13, MIN, MIN, 1);
        two(0x13, MAX, MIN, 0);
        two(0x13, MIN, MAX, -1);
        int[][] rows = {{7, 2, 3}, {-7, 2, -3}, {7, -2, -3}, {-7, -2, 3}, {1, 2, 0}, {-1, 2, 0}, {2, 2, 1}, {3, 2, 1}};
        for (int[] row : rows) {
            two(0x13, row[0], row[1], row[2]);
        }
        two(0x13, 0, 0, Bench.ZERO);
        two(0x13, 1, 0, Bench.ZERO);
        two(0x13, MIN, 0, Bench.ZERO);
        two(0x13, 0, 1, 0);
        two(0x13, 0, -1, 0);
    }

    private void rest() {
        b.sentence("14 what is left of that, with the first one's sign; ZERO.");
        two(0x14, MIN, -1, 0);
        two(0x14, MIN, 1, 0);
        two(0x14, MIN, MIN, 0);
        two(0x14, MAX, MIN, MAX);
        two(0x14, MIN, MAX, -1);
        int[][] rows = {{7, 2, 1}, {-7, 2, -1}, {7, -2, 1}, {-7, -2, -1}, {1, 2, 1}, {-1, 2, -1}, {2, 2, 0}, {-2, 2, 0}};
        for (int[] row : rows) {
            two(0x14, row[0], row[1], row[2]);
        }
        two(0x14, 0, 0, Bench.ZERO);
        two(0x14, 1, 0, Bench.ZERO);
        two(0x14, MIN, 0, Bench.ZERO);
        two(0x14, 0, -1, 0);
    }

    private void lessThanNothing() {
        b.sentence("15 - l to s.");
        one(0x15, 0, 0);
        one(0x15, 1, -1);
        one(0x15, MAX, MIN + 1);
        one(0x15, MIN, MIN);
    }

    private void bits() {
        b.sentence("18 and, 19 or, 1A exclusive or, bit by bit, of l, l to s. 1B each bit of l the other one to s.");
        int[][] rows = {{0, 0}, {0, -1}, {-1, 0}, {-1, -1}, {MIN, MAX}, {MIN, -1}, {0x0F0F3355, 0x00FF5A5A}};
        for (int[] row : rows) {
            int and = 0;
            int or = 0;
            int other = 0;
            for (int k = 31; k >= 0; k--) {
                int first = row[0] >>> k & 1;
                int second = row[1] >>> k & 1;
                and = 2 * and + first * second;
                or = 2 * or + Math.max(first, second);
                other = 2 * other + (first + second) % 2;
            }
            two(0x18, row[0], row[1], and);
            two(0x19, row[0], row[1], or);
            two(0x1A, row[0], row[1], other);
            one(0x1B, row[0], -1 - row[0]);
        }
    }

    private static final int[] OTHERS = {32, 33, 63, 64, 65, 256, 0x10000, MAX, -1, -31, -32, -33, MIN};

    private void movedUp() {
        b.sentence("1C l moved up .. by l bits (0 to 31; all others: nothing of it is left");
        two(0x1C, -1, 0, -1);
        two(0x1C, 3, 1, 6);
        two(0x1C, -1, 30, 0xC0000000);
        two(0x1C, -1, 31, MIN);
        two(0x1C, 2, 31, 0);
        for (int bits : OTHERS) {
            two(0x1C, -1, bits, 0);
            two(0x1C, MAX, bits, 0);
        }
    }

    private void movedDownWithSign() {
        b.sentence("1D down with its sign .. by l bits (0 to 31; all others: nothing of it is left, of 1D the sign alone)");
        two(0x1D, MIN, 0, MIN);
        two(0x1D, -7, 1, -4);
        two(0x1D, MIN, 30, -2);
        two(0x1D, MIN, 31, -1);
        two(0x1D, MAX, 30, 1);
        two(0x1D, MAX, 31, 0);
        for (int bits : OTHERS) {
            two(0x1D, MIN, bits, -1);
            two(0x1D, -1, bits, -1);
            two(0x1D, MAX, bits, 0);
            two(0x1D, 0, bits, 0);
        }
    }

    private void movedDown() {
        b.sentence("1E down, by l bits (0 to 31; all others: nothing of it is left");
        two(0x1E, -1, 0, -1);
        two(0x1E, -1, 1, MAX);
        two(0x1E, -1, 30, 3);
        two(0x1E, -1, 31, 1);
        two(0x1E, MAX, 31, 0);
        for (int bits : OTHERS) {
            two(0x1E, -1, bits, 0);
            two(0x1E, MAX, bits, 0);
        }
    }

    private static final String FORMS =
        "0: 10:lls 11:lls 12:lls 13:lls 14:lls 15:ls 18:lls 19:lls 1A:lls 1B:ls 1C:lls 1D:lls 1E:lls"
        + " 31:l 40:ls 41:ls 42:ls 44:ls 45:ls 48:lls 49:lls 4A:lls 4B:lls 4C:lll 4D:lll 4E:lll 4F:lll"
        + " 50:s 51:ls 52: 53:ll 54:l 100:lls 120: 150:llllllls 151:llllllls 170:ll 171:lll";

    private void behindEachRow() {
        b.sentence("Behind each ROW PC is the NEXT ROW");
        for (String pair : FORMS.split(" ")) {
            int op = Integer.parseInt(pair.substring(0, pair.indexOf(':')), 16);
            String form = pair.substring(pair.indexOf(':') + 1);
            Bench.Operand[] all = new Bench.Operand[form.length()];
            for (int k = 0; k < all.length; k++) {
                all[k] = form.charAt(k) == 'l' ? Bench.num(1) : N;
            }
            GlulxModes x = Bench.pushed(5, 6, 7);
            x.ram(0);
            int next = 16 + Bench.bytes(op, all).length;
            b.due(pair + " is done", Bench.act(x, op, all), op == 0x31 || op == 0x120 ? 0 : 1);
            b.due("PC behind " + pair, x.told(0), next);
        }
    }

    private Bench.Operand[] branch(int op, int by) {
        if (op == 0x20) {
            return new Bench.Operand[] {Bench.num(by)};
        }
        if (op < 0x24) {
            return new Bench.Operand[] {Bench.num(op == 0x22 ? 0 : 5), Bench.num(by)};
        }
        boolean less = op == 0x25 || op == 0x26 || op == 0x2A;
        boolean greater = op == 0x28 || op == 0x2C;
        return new Bench.Operand[] {Bench.num(less ? 1 : 2), Bench.num(greater ? 1 : 2), Bench.num(by)};
    }

    private static final int[] BRANCHES =
        {0x20, 0x22, 0x23, 0x24, 0x25, 0x26, 0x27, 0x28, 0x29, 0x2A, 0x2B, 0x2C, 0x2D};

    private void doneByBranches() {
        b.sentence("by 0 and 1 the machine is DONE, its ANSWER 0, 1");
        for (int op : BRANCHES) {
            for (int by = 0; by <= 1; by++) {
                GlulxModes x = new GlulxModes();
                Bench.act(x, 0x31, Bench.num(9));
                b.due(op + " by " + by, Bench.act(x, op, branch(op, by)), 0);
                b.due("DONE", x.told(1), 1);
                b.due("ANSWER", x.told(2), by);
                b.due("ROWS", x.told(6), 2);
                b.due("nothing more is done", x.step(), 0);
            }
        }
    }

    private void placesOfBranches() {
        b.sentence("else PC is the NEXT ROW and that less 2");
        int[] bys = {-1, 2, 3, -2, 100, MAX, MIN, 255, 256};
        for (int op : BRANCHES) {
            for (int by : bys) {
                GlulxModes x = new GlulxModes();
                Bench.Operand[] all = branch(op, by);
                int next = 16 + Bench.bytes(op, all).length;
                b.due(op + " by " + by, Bench.act(x, op, all), 1);
                b.due("PC", x.told(0), next + by - 2);
                b.due("not DONE", x.told(1), 0);
                b.due("no ANSWER", x.told(2), 0);
            }
        }
    }

    /** By a place, and by 0 and 1, which matter only if it branches. */
    private void taken(int op, boolean branches, Bench.Operand... loads) {
        for (int by = 0; by <= 50; by += by == 1 ? 49 : 1) {
            Bench.Operand[] all = java.util.Arrays.copyOf(loads, loads.length + 1);
            all[loads.length] = Bench.num(by);
            GlulxModes x = new GlulxModes();
            int next = 16 + Bench.bytes(op, all).length;
            String name = Integer.toHexString(op) + " of " + (loads.length > 0 ? loads[0].number : 0) + " by " + by;
            b.due(name, Bench.act(x, op, all), branches && by < 2 ? 0 : 1);
            b.due(name + " PC", x.told(0), branches && by > 1 ? next + by - 2 : next);
            b.due(name + " DONE", x.told(1), branches && by < 2 ? 1 : 0);
        }
    }

    private void always() {
        b.sentence("20 always.");
        taken(0x20, true);
    }

    private void zeroOrNot() {
        b.sentence("22 if l is 0, 23 if not.");
        int[] values = {0, 1, -1, MIN, MAX, 256, 0x10000, 0x1000000};
        for (int v : values) {
            taken(0x22, v == 0, Bench.num(v));
            taken(0x23, v != 0, Bench.num(v));
        }
    }

    private static final int[][] PAIRS = {{0, 0}, {0, 1}, {1, 0}, {-1, 0}, {0, -1}, {-1, 1}, {1, -1}, {MIN, MAX}, {MAX, MIN},
        {MIN, MIN}, {MAX, MAX}, {-1, -1}, {MIN, 0}, {0, MIN}, {MAX, -1}, {-1, MAX}, {MIN, -1}, {-1, MIN}, {-2, -1}, {5, 4}};

    private void withSigns() {
        b.sentence("Of l, l: 24 if they are the same, 25 if not, 26 less, 27 not less, 28 greater, 29 not greater");
        for (int[] pair : PAIRS) {
            long less = (long) pair[0] - pair[1];
            boolean[] due = {less == 0, less != 0, less < 0, less >= 0, less > 0, less <= 0};
            for (int k = 0; k < due.length; k++) {
                taken(0x24 + k, due[k], Bench.num(pair[0]), Bench.num(pair[1]));
            }
        }
    }

    private void withoutSigns() {
        b.sentence("2A to 2D likewise without signs.");
        for (int[] pair : PAIRS) {
            long less = (pair[0] & 0xFFFFFFFFL) - (pair[1] & 0xFFFFFFFFL);
            boolean[] due = {less < 0, less >= 0, less > 0, less <= 0};
            for (int k = 0; k < due.length; k++) {
                taken(0x2A + k, due[k], Bench.num(pair[0]), Bench.num(pair[1]));
            }
        }
    }

    private void jump() {
        b.sentence("104: PC is l.");
        int[] places = {0, 1, 2, -1, 1023, 1024, MIN, MAX};
        for (int at : places) {
            GlulxModes x = new GlulxModes();
            b.due("to " + at, Bench.act(x, 0x104, Bench.num(at)), 1);
            b.due("PC", x.told(0), at);
            b.due("not DONE", x.told(1), 0);
            b.due("ROWS", x.told(6), 1);
            b.due("the ROW there", x.step(), at >= 0 && at < 1024 ? 1 : Bench.OUTSIDE);
        }
    }

    private void ends() {
        b.sentence("31: DONE, l is the ANSWER. 120: DONE, the ANSWER is 0.");
        int[] answers = {0, 1, 2, -1, MIN, MAX};
        for (int v : answers) {
            GlulxModes x = Bench.pushed(v);
            b.due("31", Bench.act(x, 0x31, T), 0);
            b.due("DONE", x.told(1), 1);
            b.due("ANSWER", x.told(2), v);
            b.due("120", Bench.act(x, 0x120), 0);
            b.due("DONE", x.told(1), 1);
            b.due("ANSWER", x.told(2), 0);
        }
    }

    private void lowestBits() {
        b.sentence("44 the lowest 16 bits of l with their sign, 45 the lowest 8, to s.");
        int[][] of16 = {{0x7FFF, 0x7FFF}, {0x8000, -0x8000}, {0xFFFF, -1}, {0x10000, 0}, {0x12347FFF, 0x7FFF}, {-1, -1},
            {MIN, 0}, {MAX, -1}, {0xFFFF0001, 1}, {0x80, 0x80}};
        for (int[] row : of16) {
            one(0x44, row[0], row[1]);
        }
        int[][] of8 = {{0x7F, 0x7F}, {0x80, -0x80}, {0xFF, -1}, {0x100, 0}, {0x1234567F, 0x7F}, {-1, -1}, {MIN, 0},
            {MAX, -1}, {0xFFFFFF01, 1}, {0x8000, 0}};
        for (int[] row : of8) {
            one(0x45, row[0], row[1]);
        }
    }

    private void abilities() {
        b.sentence("100 of l, l to s: of l 0: 196866 (30102 hexadecimal); 1: 65793; 2, 3, 5: 1; 6: 1; all others 0.");
        int[][] rows = {{0, 196866}, {1, 65793}, {2, 1}, {3, 1}, {4, 0}, {5, 1}, {6, 1}, {7, 0}, {8, 0}, {-1, 0}, {MIN, 0},
            {MAX, 0}, {256, 0}, {0x10000, 0}};
        int[] seconds = {0, 1, -1, 4, MIN};
        for (int[] row : rows) {
            for (int second : seconds) {
                two(0x100, row[0], second, row[1]);
            }
        }
    }
}
