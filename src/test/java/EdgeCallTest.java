/** Promises 1 to 14: of each call the sentences that name a boundary case, one by one. */
public final class EdgeCallTest {
    private static final int MIN = Bench.MIN, MAX = Bench.MAX;
    private static final int BAD = -1, NONE = -2;

    private final Bench b = new Bench();

    public static void main(String[] args) {
        EdgeCallTest t = new EdgeCallTest();
        t.newObject();
        t.layCounts();
        t.layPlaces();
        t.layOrder();
        t.ramPlaces();
        t.goAnywhere();
        t.goWhenDone();
        t.pushUpToFull();
        t.clearEmptyAndFull();
        t.readSizes();
        t.readFaults();
        t.readDoesNothing();
        t.rowOfLatest();
        t.rowNumbers();
        t.rowNone();
        t.rowBad();
        t.stepAnswers();
        t.stepFaults();
        t.runLimits();
        t.runEnds();
        t.toldWhats();
        t.toldAnswer();
        t.toldFault();
        t.toldRows();
        t.octets();
        t.locals();
        t.stacks();
        t.b.end();
    }

    private void newObject() {
        b.sentence("All is 0; RAM begins at 256; nothing was read; it is not DONE.");
        int[] told = {0, 0, 0, 0, 256, 0, 0};
        GlulxModes x = new GlulxModes();
        for (int what = 0; what < told.length; what++) {
            b.due("told " + what, x.told(what), told[what]);
        }
        int[] whats = {0, 1, 10, 17, 20, 27};
        for (int what : whats) {
            b.due("row " + what, x.row(what), NONE);
        }
        for (int at = 0; at <= 60; at++) {
            b.due("local " + at, x.local(at), 0);
        }
        for (int k = 0; k < 40; k++) {
            b.due("stack " + k, x.stack(k), 0);
        }
        for (int from = 0; from < 1024; from += 512) {
            x = new GlulxModes();
            for (int at = from; at < from + 512; at++) {
                b.due("octet " + at, x.octet(at), 0);
            }
        }
        b.due("it was not DONE before its first row", new GlulxModes().step(), 1);
    }

    private void layCounts() {
        b.sentence("The n lowest bytes (1 to 8) of v .. BAD: n");
        for (int n = 1; n <= 8; n++) {
            GlulxModes x = new GlulxModes();
            x.lay(399, 8, -1L);
            x.lay(407, 8, -1L);
            b.due("lay of " + n, x.lay(400, n, 0x7172737475767778L), 1);
            for (int k = 0; k < 12; k++) {
                b.due("byte " + k + " of " + n, x.octet(399 + k), k >= 1 && k <= n ? 0x78 - n + k : 255);
            }
        }
        int[] wrong = {0, 9, 10, -1, -8, MIN, MAX, 1024};
        for (int n : wrong) {
            GlulxModes x = new GlulxModes();
            b.due("lay of " + n, x.lay(400, n, -1L), BAD);
            b.due("lay of " + n + " at 0", x.lay(0, n, -1L), BAD);
            b.due("lay of " + n + " at 1024", x.lay(1024, n, -1L), BAD);
            for (int at = 392; at < 412; at++) {
                b.due("nothing lies at " + at, x.octet(at), 0);
            }
            b.due("nothing lies at 0", x.octet(0), 0);
        }
    }

    private void layPlaces() {
        b.sentence("BAD: n; they are not all in MEMORY.");
        for (int n = 1; n <= 8; n++) {
            GlulxModes x = new GlulxModes();
            b.due("the first place of " + n, x.lay(0, n, -1L), 1);
            b.due("its first byte", x.octet(0), 255);
            b.due("behind it", x.octet(n), 0);
            b.due("the last place of " + n, x.lay(1024 - n, n, -2L), 1);
            b.due("its last byte", x.octet(1023), 254);
            b.due("before it", x.octet(1023 - n), 0);
            int[] wrong = {-1, -n, 1025 - n, 1024, 1025, MAX, MAX - n + 1, MIN, -1024};
            for (int at : wrong) {
                b.due("lay of " + n + " at " + at, x.lay(at, n, 0x3333333333333333L), BAD);
            }
            b.due("the first byte stays", x.octet(0), 255);
            b.due("the last byte stays", x.octet(1023), 254);
            b.due("before it", x.octet(1023 - n), 0);
        }
        GlulxModes x = new GlulxModes();
        x.ram(1024);
        b.due("lay below RAM", x.lay(10, 1, 7L), 1);
        b.due("lay is no store of the machine", x.octet(10), 7);
    }

    private void layOrder() {
        b.sentence("the highest first, lie at a place on");
        GlulxModes x = new GlulxModes();
        x.lay(500, 8, 0x8001020304050607L);
        int[] bytes = {0x80, 1, 2, 3, 4, 5, 6, 7};
        for (int k = 0; k < 8; k++) {
            b.due("byte " + k, x.octet(500 + k), bytes[k]);
        }
        x.lay(600, 8, Long.MIN_VALUE);
        b.due("the highest bit", x.octet(600), 128);
        b.due("the lowest byte", x.octet(607), 0);
        x.lay(600, 8, -1L);
        b.due("of -1 the first", x.octet(600), 255);
        b.due("of -1 the last", x.octet(607), 255);
    }

    private void ramPlaces() {
        b.sentence("RAM begins at a place (0 to 1024): where it was. BAD.");
        GlulxModes x = new GlulxModes();
        b.due("the least", x.ram(0), 256);
        b.due("the greatest", x.ram(1024), 0);
        int[] wrong = {-1, 1025, MIN, MAX, -256, 2048};
        for (int at : wrong) {
            b.due("ram " + at, x.ram(at), BAD);
            b.due("RAM is where it was", x.told(4), 1024);
        }
        b.due("back", x.ram(256), 1024);
        b.due("told", x.told(4), 256);
        b.due("the same", x.ram(256), 256);
        x.ram(0);
        b.due("a store at 0", Bench.act(x, 0x42, Bench.num(5), Bench.mem(0)), 1);
        x.ram(1024);
        b.due("no store at 1023", Bench.act(x, 0x42, Bench.num(5), Bench.mem(1023)), Bench.FIXED);
        b.due("a load below RAM", Bench.act(x, 0x42, Bench.mem(0), Bench.TOP), 1);
    }

    private void goAnywhere() {
        b.sentence("PC is a place, whatever");
        GlulxModes x = new GlulxModes();
        int[] places = {0, 1023, 1024, 1025, -1, MIN, MAX, 0};
        int before = 0;
        for (int at : places) {
            b.due("go " + at, x.go(at), before);
            b.due("PC", x.told(0), at);
            boolean there = at >= 0 && at < 1024;
            b.due("the row there", x.step(), there ? 1 : Bench.OUTSIDE);
            before = there ? at + 1 : at;
        }
    }

    private void goWhenDone() {
        b.sentence("it is not DONE: the PC before.");
        GlulxModes x = new GlulxModes();
        b.due("it ends", Bench.act(x, 0x31, Bench.num(9)), 0);
        b.due("DONE", x.told(1), 1);
        b.due("go where it is", x.go(19), 19);
        b.due("not DONE", x.told(1), 0);
        b.due("it goes on", x.step(), 1);
        Bench.act(x, 0x120);
        b.due("go out of MEMORY", x.go(-7), 18);
        b.due("not DONE there either", x.told(1), 0);
        b.due("a FAULT, not 0", x.step(), Bench.OUTSIDE);
    }

    private void pushUpToFull() {
        b.sentence("The STACK gets v: how many it has. NONE: it is FULL.");
        GlulxModes x = new GlulxModes();
        for (int k = 1; k <= 40; k++) {
            b.due("push " + k, x.push(MIN + k), k);
        }
        for (int k = 0; k < 3; k++) {
            b.due("one too many", x.push(5), NONE);
            b.due("how many", x.told(3), 40);
            b.due("the top", x.stack(0), MIN + 40);
        }
        b.due("one is taken off", Bench.act(x, 0x40, Bench.TOP, Bench.NIL), 1);
        b.due("there is room for one", x.push(-1), 40);
        b.due("the top", x.stack(0), -1);
        b.due("the lowest", x.stack(39), MIN + 1);
        b.due("full again", x.push(-2), NONE);
    }

    private void clearEmptyAndFull() {
        b.sentence("The STACK and LOCALS are empty, 0: how many the STACK had.");
        GlulxModes x = new GlulxModes();
        b.due("of nothing", x.clear(), 0);
        for (int k = 1; k <= 40; k++) {
            x.push(k);
        }
        for (int at = 0; at < 64; at += 4) {
            Bench.act(x, 0x40, Bench.num(-1), Bench.loc(at));
        }
        b.due("of a full one", x.clear(), 40);
        b.due("how many", x.told(3), 0);
        for (int k = 0; k < 40; k++) {
            b.due("stack " + k, x.stack(k), 0);
        }
        for (int at = 0; at <= 60; at++) {
            b.due("local " + at, x.local(at), 0);
        }
        b.due("nothing to take off", Bench.act(x, 0x40, Bench.TOP, Bench.NIL), Bench.UNDER);
        b.due("again", x.clear(), 0);
        b.due("there is room", x.push(3), 1);
        b.due("of one", x.clear(), 1);
    }

    private void readSizes() {
        b.sentence("The ROW at a place is READ (nothing is done): how many bytes it has");
        GlulxModes x = new GlulxModes();
        b.due("the shortest", x.read(0), 1);
        b.due("at the end of MEMORY", x.read(1023), 1);
        Bench.Operand[] eight = new Bench.Operand[8];
        java.util.Arrays.fill(eight, Bench.as(7, 500));
        byte[] longest = Bench.bytes(0x150, eight);
        Bench.lay(x, 986, longest);
        b.due("the longest of two bytes", x.read(986), 2 + 4 + 32);
        x.lay(984, 4, 0xC0000150L);
        b.due("the longest of four bytes", x.read(984), 4 + 4 + 32);
        x = new GlulxModes();
        Bench.lay(x, 987, java.util.Arrays.copyOf(longest, 37));
        b.due("its last byte is not there", x.read(987), Bench.OUTSIDE);
    }

    private void readFaults() {
        b.sentence("-10 less a FAULT (OPERATION, OUTSIDE, MODE).");
        GlulxModes x = new GlulxModes();
        x.lay(300, 1, 0x01L);
        b.due("OPERATION", x.read(300), -13);
        int[] places = {-1, 1024, MIN, MAX};
        for (int at : places) {
            b.due("OUTSIDE at " + at, x.read(at), -11);
        }
        x.lay(300, 2, 0x3104L);
        b.due("MODE", x.read(300), -12);
        x.lay(300, 3, 0x130000L);
        b.due("no ZERO, it is not done", x.read(300), 3);
        x.lay(300, 2, 0x4088L);
        b.due("no UNDER, it is not done", x.read(300), 2);
        x.lay(300, 4, 0x40990061L);
        b.due("no LOCAL, it is not done", x.read(300), 4);
        x.lay(300, 3, 0x405000L);
        b.due("no FIXED, it is not done", x.read(300), 3);
    }

    private void readDoesNothing() {
        b.sentence("is READ (nothing is done)");
        GlulxModes x = Bench.pushed(4, 5);
        Bench.lay(x, 300, 0x10, Bench.TOP, Bench.TOP, Bench.mem(400));
        Bench.lay(x, 310, 0x31, Bench.num(6));
        b.due("a FAULT before", Bench.act(x, 0x14, Bench.NIL, Bench.NIL, Bench.NIL), Bench.ZERO);
        b.due("read", x.read(300), 5);
        b.due("read", x.read(310), 3);
        b.due("read outside", x.read(1024), -11);
        int[] told = {16, 0, 0, 2, 256, 6, 0};
        for (int what = 0; what < told.length; what++) {
            b.due("told " + what, x.told(what), told[what]);
        }
        b.due("nothing is stored", Bench.word(x, 400), 0);
        Bench.act(x, 0x120);
        b.due("read when DONE", x.read(300), 5);
        b.due("it is still DONE", x.told(1), 1);
    }

    private void rowOfLatest() {
        b.sentence("Of the ROW that was READ latest without a FAULT");
        GlulxModes x = new GlulxModes();
        x.lay(300, 1, 0x7FL);
        x.lay(310, 2, 0x3104L);
        Bench.lay(x, 320, 0x11, Bench.num(-5), Bench.mem(6), Bench.TOP);
        int[] faulty = {300, 310, 1024};
        for (int at : faulty) {
            x.read(at);
            b.due("none without a FAULT yet", x.row(0), NONE);
        }
        b.due("read", x.read(320), 5);
        for (int at : faulty) {
            x.read(at);
            b.due("OPERATION", x.row(0), 0x11);
            b.due("operands", x.row(1), 3);
            b.due("MODE 0", x.row(10), 1);
            b.due("MODE 1", x.row(11), 5);
            b.due("MODE 2", x.row(12), 8);
            b.due("number 0", x.row(20), -5);
            b.due("number 1", x.row(21), 6);
            b.due("number 2", x.row(22), 0);
        }
        x.lay(320, 8, 0L);
        b.due("its bytes are others now", x.row(0), 0x11);
        b.due("read again", x.read(320), 1);
        b.due("another", x.row(0), 0);
        b.due("it has none", x.row(1), 0);
        b.due("no operand", x.row(10), NONE);
    }

    private void rowNumbers() {
        b.sentence("20 + k: its number (0 for MODES 0, 8; of 5 to 7, 9 to 11, 13 to 15 without a sign, of four bytes with)");
        for (int mode = 0; mode < 16; mode++) {
            if (mode == 4 || mode == 12) {
                continue;
            }
            int[] numbers = {0, 1, 0x7F, 0x80, 0xFF, 0x7FFF, 0x8000, 0xFFFF, MAX, MIN, -1};
            for (int number : numbers) {
                GlulxModes x = new GlulxModes();
                Bench.lay(x, 300, 0x31, Bench.as(mode, number));
                x.read(300);
                b.due("mode", x.row(10), mode);
                b.due("number " + number + " of mode " + mode, x.row(20), numberOf(mode, number));
            }
        }
    }

    private static int numberOf(int mode, int number) {
        switch (mode) {
            case 0: case 8: return 0;
            case 1: return (byte) number;
            case 2: return (short) number;
            case 5: case 9: case 13: return number & 0xFF;
            case 6: case 10: case 14: return number & 0xFFFF;
            default: return number;
        }
    }

    private void rowNone() {
        b.sentence("NONE: no such operand, none was READ.");
        GlulxModes x = new GlulxModes();
        int[] whats = {0, 1, 10, 11, 17, 18, 19, 20, 21, 27, 28, 29, 30, 1024, MAX};
        for (int what : whats) {
            b.due("row " + what + ", none was READ", x.row(what), NONE);
        }
        int[][] forms = {{0x00, 0}, {0x31, 1}, {0x22, 2}, {0x24, 3}, {0x150, 8}};
        for (int[] form : forms) {
            Bench.Operand[] operands = new Bench.Operand[form[1]];
            java.util.Arrays.fill(operands, Bench.NIL);
            Bench.lay(x, 300, form[0], operands);
            x.read(300);
            for (int k = 0; k < form[1]; k++) {
                b.due("mode " + k, x.row(10 + k), 0);
                b.due("number " + k, x.row(20 + k), 0);
            }
            for (int k = form[1]; k < 10; k++) {
                b.due("no mode " + k + " of " + form[1], x.row(10 + k), NONE);
                b.due("no number " + k + " of " + form[1], x.row(20 + k), NONE);
            }
            b.due("no number far off", x.row(MAX), NONE);
        }
    }

    private void rowBad() {
        b.sentence("BAD: else.");
        GlulxModes x = new GlulxModes();
        int[] whats = {-1, -2, -10, MIN, 2, 3, 4, 5, 6, 7, 8, 9};
        for (int what : whats) {
            b.due("row " + what + ", none was READ", x.row(what), BAD);
        }
        x.read(300);
        for (int what : whats) {
            b.due("row " + what, x.row(what), BAD);
        }
    }

    private void stepAnswers() {
        b.sentence("The ROW at PC is done: 1; 0: it is DONE (now, or was)");
        GlulxModes x = new GlulxModes();
        Bench.lay(x, 1, 0x31, Bench.num(4));
        b.due("done", x.step(), 1);
        b.due("DONE now", x.step(), 0);
        int pc = x.told(0);
        for (int k = 0; k < 3; k++) {
            b.due("DONE before", x.step(), 0);
            b.due("PC stays", x.told(0), pc);
            b.due("ROWS stay", x.told(6), 2);
            b.due("the ANSWER stays", x.told(2), 4);
        }
        b.due("the last ROW of MEMORY", x.go(1023), pc);
        b.due("is done", x.step(), 1);
        b.due("behind it is none", x.step(), Bench.OUTSIDE);
    }

    private void stepFaults() {
        b.sentence("-10 less a FAULT.");
        Bench.Operand n = Bench.NIL;
        Bench.Operand one = Bench.num(1);
        fault(1, new GlulxModes(), 0x40, Bench.mem(1021), n);
        fault(2, new GlulxModes(), 0x40, n, one);
        fault(3, new GlulxModes(), 0x7F);
        fault(4, new GlulxModes(), 0x40, Bench.TOP, n);
        fault(5, Bench.pushedUpTo(40), 0x40, n, Bench.TOP);
        fault(6, new GlulxModes(), 0x13, one, n, n);
        fault(7, new GlulxModes(), 0x40, n, Bench.loc(61));
        fault(8, new GlulxModes(), 0x40, n, Bench.mem(255));
        fault(9, new GlulxModes(), 0x150, n, n, n, n, n, n, n, n);
    }

    private void fault(int number, GlulxModes x, int op, Bench.Operand... operands) {
        b.due("FAULT " + number, Bench.act(x, op, operands), -10 - number);
        b.due("told", x.told(5), number);
        b.due("not DONE", x.told(1), 0);
        b.due("PC stays", x.told(0), 16);
        b.due("it meets it again", x.step(), -10 - number);
    }

    private void runLimits() {
        b.sentence("or there were n (0 to 2000): how many were done without one. BAD.");
        GlulxModes x = new GlulxModes();
        int[] wrong = {-1, 2001, MIN, MAX, -2000};
        for (int n : wrong) {
            b.due("run " + n, x.run(n), BAD);
            b.due("nothing is done", x.told(6), 0);
            b.due("PC stays", x.told(0), 0);
        }
        b.due("none", x.run(0), 0);
        b.due("PC stays", x.told(0), 0);
        b.due("one", x.run(1), 1);
        b.due("PC", x.told(0), 1);
        Bench.lay(x, 600, 0x20, Bench.num(-1));
        x.go(600);
        b.due("1999", x.run(1999), 1999);
        b.due("the most", x.run(2000), 2000);
        b.due("no FAULT", x.told(5), 0);
        b.due("ROWS", x.told(6), 4000);
    }

    private void runEnds() {
        b.sentence("ROWS are done, until it is DONE, one meets a FAULT");
        GlulxModes x = new GlulxModes();
        Bench.lay(x, 103, 0x31, Bench.num(8));
        x.go(100);
        b.due("the ROW that ends it counts", x.run(2000), 4);
        b.due("PC", x.told(0), 106);
        b.due("DONE", x.told(1), 1);
        b.due("DONE already", x.run(2000), 0);
        b.due("PC stays", x.told(0), 106);
        x.go(100);
        b.due("up to before the end", x.run(3), 3);
        b.due("not DONE", x.told(1), 0);
        b.due("the end", x.run(1), 1);
        b.due("DONE", x.told(1), 1);
        x.go(1021);
        b.due("the ROW with the FAULT does not count", x.run(2000), 3);
        b.due("FAULT", x.told(5), 1);
        b.due("PC", x.told(0), 1024);
        b.due("a FAULT at once", x.run(2000), 0);
        b.due("FAULT", x.told(5), 1);
        x.go(1021);
        b.due("up to before the FAULT", x.run(3), 3);
        b.due("no FAULT", x.told(5), 0);
    }

    private void toldWhats() {
        b.sentence("6 ROWS that were done in all. BAD.");
        GlulxModes x = new GlulxModes();
        int[] wrong = {-1, 7, 8, -7, MIN, MAX};
        for (int what : wrong) {
            b.due("told " + what, x.told(what), BAD);
        }
        b.due("the last", x.told(6), 0);
        b.due("the first", x.told(0), 0);
    }

    private void toldAnswer() {
        b.sentence("2 the ANSWER (0 until then; of the latest DONE)");
        GlulxModes x = new GlulxModes();
        b.due("until then", x.told(2), 0);
        Bench.act(x, 0x40, Bench.num(5), Bench.loc(0));
        b.due("until then", x.told(2), 0);
        Bench.act(x, 0x31, Bench.num(-7));
        b.due("of 31", x.told(2), -7);
        x.go(0);
        x.step();
        b.due("it stays", x.told(2), -7);
        Bench.act(x, 0x13, Bench.NIL, Bench.NIL, Bench.NIL);
        b.due("a FAULT leaves it", x.told(2), -7);
        x.clear();
        b.due("clear leaves it", x.told(2), -7);
        Bench.act(x, 0x20, Bench.num(1));
        b.due("of a branch", x.told(2), 1);
        Bench.act(x, 0x120);
        b.due("of 120", x.told(2), 0);
        Bench.act(x, 0x31, Bench.num(MIN));
        b.due("of 31", x.told(2), MIN);
        Bench.act(x, 0x20, Bench.num(0));
        b.due("of a branch", x.told(2), 0);
    }

    private void toldFault() {
        b.sentence("5 the FAULT of the latest step(), run() (0: none)");
        GlulxModes x = new GlulxModes();
        x.go(1024);
        b.due("step", x.step(), Bench.OUTSIDE);
        b.due("of step", x.told(5), 1);
        b.due("go", x.go(0), 1024);
        b.due("go is no step", x.told(5), 1);
        b.due("step", x.step(), 1);
        b.due("none", x.told(5), 0);
        x.go(1023);
        b.due("run", x.run(2), 1);
        b.due("of run", x.told(5), 1);
        x.go(300);
        b.due("run", x.run(2), 2);
        b.due("none", x.told(5), 0);
        x.go(-1);
        x.run(1);
        b.due("a run of none meets none", x.run(0), 0);
        b.due("none", x.told(5), 0);
        x.step();
        b.due("FAULT", x.told(5), 1);
        Bench.act(x, 0x120);
        b.due("the end is none", x.told(5), 0);
        b.due("nor is a step behind it", x.step(), 0);
        b.due("none", x.told(5), 0);
    }

    private void toldRows() {
        b.sentence("6 ROWS that were done in all");
        GlulxModes x = new GlulxModes();
        x.run(10);
        x.step();
        b.due("run and step", x.told(6), 11);
        Bench.act(x, 0x40, Bench.TOP, Bench.NIL);
        b.due("a FAULT is not done", x.told(6), 11);
        Bench.act(x, 0x120);
        b.due("the end is", x.told(6), 12);
        x.step();
        x.run(5);
        b.due("nothing behind it", x.told(6), 12);
        x.clear();
        x.go(0);
        x.read(0);
        b.due("no call but step and run", x.told(6), 12);
    }

    private void octets() {
        b.sentence("A byte of MEMORY, without a sign. BAD.");
        GlulxModes x = new GlulxModes();
        x.lay(0, 1, 255L);
        x.lay(1023, 1, 128L);
        x.lay(500, 1, 127L);
        b.due("the first", x.octet(0), 255);
        b.due("the last", x.octet(1023), 128);
        b.due("another", x.octet(500), 127);
        int[] wrong = {-1, 1024, 1025, -1024, MIN, MAX};
        for (int at : wrong) {
            b.due("octet " + at, x.octet(at), BAD);
        }
    }

    private void locals() {
        b.sentence("The int of LOCALS at a byte 0 to 60. 0: none such.");
        GlulxModes x = new GlulxModes();
        for (int at = 0; at < 64; at += 4) {
            Bench.act(x, 0x40, Bench.num(0x81828384 + at * 0x01010101), Bench.loc(at));
        }
        b.due("the first", x.local(0), 0x81828384);
        b.due("between two", x.local(1), 0x82838485);
        b.due("between two", x.local(3), 0x84858687);
        b.due("one before the last", x.local(59), 0xBCBDBEBF);
        b.due("the last", x.local(60), 0xBDBEBFC0);
        int[] wrong = {-1, -2, -3, -4, 61, 62, 63, 64, 65, MIN, MAX};
        for (int at : wrong) {
            b.due("local " + at, x.local(at), 0);
        }
    }

    private void stacks() {
        b.sentence("The k-th int of the STACK from the top (0). 0: none such.");
        int[] wrong = {-1, -2, 40, 41, MIN, MAX};
        GlulxModes x = Bench.pushedUpTo(40);
        b.due("the top", x.stack(0), 40);
        b.due("the lowest", x.stack(39), 1);
        for (int k : wrong) {
            b.due("stack " + k + " of forty", x.stack(k), 0);
        }
        for (int k = 0; k < 37; k++) {
            Bench.act(x, 0x40, Bench.TOP, Bench.NIL);
        }
        b.due("the lowest of three", x.stack(2), 1);
        b.due("none below", x.stack(3), 0);
        b.due("none above", x.stack(-1), 0);
        b.due("none far above", x.stack(-37), 0);
        x.clear();
        b.due("of none", x.stack(0), 0);
        b.due("of none", x.stack(-1), 0);
    }
}
