/** Promises 1 to 6 and 11 to 14: the calls that set and tell the state. */
public final class StateTest {
    public static void main(String[] args) {
        Bench b = new Bench();
        newObject(b);
        laying(b);
        ram(b);
        going(b);
        pushing(b);
        clearing(b);
        telling(b);
        locals(b);
        nothingElseChanges(b);
        b.end();
    }

    private static void newObject(Bench b) {
        int[] due = {0, 0, 0, 0, 256, 0, 0};
        GlulxModes x = new GlulxModes();
        for (int k = 0; k < due.length; k++) {
            b.due("new told " + k, x.told(k), due[k]);
        }
        for (int k = 0; k < 1024; k += 3) {
            b.due("new octet " + k, x.octet(k), 0);
        }
        x = new GlulxModes();
        for (int k = 0; k <= 60; k++) {
            b.due("new local " + k, x.local(k), 0);
        }
        b.due("new stack", x.stack(0), 0);
        b.due("new row 0", x.row(0), GlulxModes.NONE);
        b.due("new row 10", x.row(10), GlulxModes.NONE);
        b.due("a new memory has rows that do nothing", x.step(), 1);
        b.due("another object is apart", new GlulxModes().told(6), 0);
    }

    private static void laying(Bench b) {
        long v = 0x8102030405060708L;
        for (int n = 1; n <= 8; n++) {
            GlulxModes x = new GlulxModes();
            b.due("lay " + n, x.lay(100, n, v), 1);
            b.due("before", x.octet(99), 0);
            for (int k = 0; k < n; k++) {
                b.due("lay " + n + " byte " + k, x.octet(100 + k), (v >>> 8 * (n - 1 - k)) & 255);
            }
            b.due("behind", x.octet(100 + n), 0);
            b.due("last place", x.lay(1024 - n, n, -1L), 1);
            b.due("its last byte", x.octet(1023), 255);
            b.due("one too far", x.lay(1025 - n, n, 0L), -1);
            b.due("nothing was laid", x.octet(1023), 255);
        }
        GlulxModes x = new GlulxModes();
        int[] wrongNumbers = {0, -1, 9, Bench.MIN, Bench.MAX};
        for (int n : wrongNumbers) {
            b.due("lay n " + n, x.lay(100, n, -1L), -1);
        }
        int[] wrongPlaces = {-1, -8, 1024, Bench.MAX, Bench.MAX - 7, Bench.MIN};
        for (int at : wrongPlaces) {
            b.due("lay at " + at, x.lay(at, 8, -1L), -1);
            b.due("lay one at " + at, x.lay(at, 1, -1L), -1);
        }
        b.due("place 0", x.octet(0), 0);
        b.due("place 100", x.octet(100), 0);
    }

    private static void ram(Bench b) {
        GlulxModes x = new GlulxModes();
        b.due("ram 0", x.ram(0), 256);
        b.due("ram 1024", x.ram(1024), 0);
        b.due("ram 1025", x.ram(1025), -1);
        b.due("ram -1", x.ram(-1), -1);
        b.due("ram max", x.ram(Bench.MAX), -1);
        b.due("ram min", x.ram(Bench.MIN), -1);
        b.due("told", x.told(4), 1024);
        b.due("ram 1", x.ram(1), 1024);
        b.due("told", x.told(4), 1);
    }

    private static void going(Bench b) {
        GlulxModes x = new GlulxModes();
        int[] places = {5, -1, 1024, Bench.MAX, Bench.MIN, 0};
        int before = 0;
        for (int at : places) {
            b.due("go " + at, x.go(at), before);
            b.due("told", x.told(0), at);
            before = at;
        }
        b.due("end", Bench.act(x, 0x31, Bench.num(77)), 0);
        b.due("done", x.told(1), 1);
        b.due("go", x.go(500), 18 + 1);
        b.due("not done", x.told(1), 0);
        b.due("the answer stays", x.told(2), 77);
        b.due("a row is done", x.step(), 1);
        b.due("a second", x.told(6), 2);
    }

    private static void pushing(Bench b) {
        GlulxModes x = new GlulxModes();
        for (int k = 1; k <= 40; k++) {
            b.due("push " + k, x.push(k * 1000003), k);
            b.due("top", x.stack(0), k * 1000003);
            b.due("lowest", x.stack(k - 1), 1000003);
            b.due("none below", x.stack(k), 0);
        }
        b.due("full", x.push(5), GlulxModes.NONE);
        b.due("count", x.told(3), 40);
        b.due("top", x.stack(0), 40000120);
        b.due("stack 39", x.stack(39), 1000003);
        b.due("stack 40", x.stack(40), 0);
        b.due("stack -1", x.stack(-1), 0);
        b.due("stack max", x.stack(Bench.MAX), 0);
        b.due("stack min", x.stack(Bench.MIN), 0);
    }

    private static void clearing(Bench b) {
        GlulxModes x = Bench.pushed(7, 8, 9);
        for (int at = 0; at < 64; at += 4) {
            Bench.act(x, 0x40, Bench.num(-1), Bench.loc(at));
            b.due("local " + at, x.local(at), -1);
        }
        x.ram(300);
        x.lay(900, 1, 5L);
        int rows = x.told(6);
        int pc = x.told(0);
        b.due("clear", x.clear(), 3);
        for (int at = 0; at <= 60; at++) {
            b.due("cleared local " + at, x.local(at), 0);
        }
        b.due("count", x.told(3), 0);
        b.due("stack", x.stack(0), 0);
        b.due("nothing above the top", x.stack(-1), 0);
        b.due("memory stays", x.octet(900), 5);
        b.due("ram stays", x.told(4), 300);
        b.due("rows stay", x.told(6), rows);
        b.due("pc stays", x.told(0), pc);
        b.due("clear again", x.clear(), 0);
        b.due("push", x.push(1), 1);
    }

    private static void telling(Bench b) {
        GlulxModes x = new GlulxModes();
        int[] wrong = {-1, 7, 8, Bench.MAX, Bench.MIN};
        for (int what : wrong) {
            b.due("told " + what, x.told(what), -1);
        }
        b.due("zero", Bench.act(x, 0x13, Bench.num(1), Bench.num(0), Bench.NIL), Bench.ZERO);
        b.due("fault", x.told(5), 6);
        b.due("rows", x.told(6), 0);
        b.due("read makes no fault", x.read(-1), -11);
        b.due("fault stays", x.told(5), 6);
        b.due("go", x.go(500), 16);
        b.due("fault stays", x.told(5), 6);
        b.due("a run that is none", x.run(-1), -1);
        b.due("fault stays", x.told(5), 6);
        b.due("a run of none", x.run(0), 0);
        b.due("fault is gone", x.told(5), 0);
        b.due("run", x.run(3), 3);
        b.due("rows", x.told(6), 3);
        b.due("pc", x.told(0), 503);
        x.push(4);
        b.due("count", x.told(3), 1);
        b.due("octet -1", x.octet(-1), -1);
        b.due("octet 1024", x.octet(1024), -1);
        b.due("octet max", x.octet(Bench.MAX), -1);
        b.due("octet min", x.octet(Bench.MIN), -1);
        x.lay(1023, 1, 200L);
        b.due("octet 1023", x.octet(1023), 200);
    }

    private static void locals(Bench b) {
        GlulxModes x = new GlulxModes();
        Bench.act(x, 0x40, Bench.num(0x81020304), Bench.loc(0));
        Bench.act(x, 0x40, Bench.num(0x05060708), Bench.loc(60));
        b.due("local 0", x.local(0), 0x81020304);
        b.due("local 1", x.local(1), 0x02030400);
        b.due("local 57", x.local(57), 5);
        b.due("local 60", x.local(60), 0x05060708);
        b.due("local 61", x.local(61), 0);
        b.due("local 64", x.local(64), 0);
        b.due("local -1", x.local(-1), 0);
        b.due("local -4", x.local(-4), 0);
        b.due("local max", x.local(Bench.MAX), 0);
        b.due("local min", x.local(Bench.MIN), 0);
    }

    /** Calls that neither go nor do rows leave PC, DONE, the ANSWER, the FAULT and the count of rows as they are. */
    private static void nothingElseChanges(Bench b) {
        GlulxModes x = new GlulxModes();
        Bench.act(x, 0x31, Bench.num(5));
        otherCalls(x);
        int[] done = {19, 1, 5, 0, 300, 0, 1};
        for (int what = 0; what < done.length; what++) {
            b.due("DONE, told " + what, x.told(what), done[what]);
        }
        Bench.act(x, 0x14, Bench.num(5), Bench.NIL, Bench.NIL);
        otherCalls(x);
        int[] faulty = {16, 0, 5, 0, 300, 6, 1};
        for (int what = 0; what < faulty.length; what++) {
            b.due("FAULT, told " + what, x.told(what), faulty[what]);
        }
        b.due("what was read stays", x.row(0), 0);
    }

    private static void otherCalls(GlulxModes x) {
        x.lay(400, 8, -1L);
        x.lay(400, 9, -1L);
        x.ram(300);
        x.ram(-1);
        x.push(7);
        x.read(500);
        x.read(-1);
        x.row(0);
        x.row(-1);
        x.run(-1);
        x.run(2001);
        x.told(7);
        x.octet(-1);
        x.local(-1);
        x.stack(-1);
        x.clear();
    }
}
