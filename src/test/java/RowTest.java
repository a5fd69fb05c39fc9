/** Promises 7 and 8: how a row is read, and what is told of it. */
public final class RowTest {
    private static final String COUNTS =
        "0:0 10:3 11:3 12:3 13:3 14:3 15:2 18:3 19:3 1A:3 1B:2 1C:3 1D:3 1E:3 20:1 22:2 23:2 24:3 25:3 26:3 27:3"
        + " 28:3 29:3 2A:3 2B:3 2C:3 2D:3 31:1 40:2 41:2 42:2 44:2 45:2 48:3 49:3 4A:3 4B:3 4C:3 4D:3 4E:3 4F:3"
        + " 50:1 51:2 52:0 53:2 54:1 100:3 104:1 120:0 150:8 151:8 170:2 171:3";
    private static final String STORES =
        " 10 11 12 13 14 15 18 19 1A 1B 1C 1D 1E 40 41 42 44 45 48 49 4A 4B 50 51 100 150 151 ";

    public static void main(String[] args) {
        Bench b = new Bench();
        everyOperation(b);
        widths(b);
        numbers(b);
        latest(b);
        wrongWhats(b);
        edges(b);
        faultOrder(b);
        stores(b);
        b.end();
    }

    private static int countOf(int operation) {
        for (String pair : COUNTS.split(" ")) {
            String[] parts = pair.split(":");
            if (Integer.parseInt(parts[0], 16) == operation) {
                return Integer.parseInt(parts[1]);
            }
        }
        return -1;
    }

    private static void everyOperation(Bench b) {
        for (int op = 0; op < 0x4000; op++) {
            int count = countOf(op);
            GlulxModes x = new GlulxModes();
            x.lay(300, 2, 0x8000 | op);
            b.due("two bytes " + op, x.read(300), count < 0 ? -13 : 2 + (count + 1) / 2);
            b.due("row 0", x.row(0), count < 0 ? -2 : op);
            b.due("row 1", x.row(1), count < 0 ? -2 : count);
            x.lay(400, 4, 0xC0000000L | op);
            b.due("four bytes " + op, x.read(400), count < 0 ? -13 : 4 + (count + 1) / 2);
            b.due("row 0", x.row(0), count < 0 ? -2 : op);
            if (op < 128) {
                x.lay(500, 1, op);
                b.due("one byte " + op, x.read(500), count < 0 ? -13 : 1 + (count + 1) / 2);
                b.due("row 0", x.row(0), count < 0 ? -2 : op);
            }
        }
    }

    private static void widths(Bench b) {
        long[] fours = {0xC0000010L, 0xD0000010L, 0xE0000010L, 0xF0000010L};
        for (long four : fours) {
            GlulxModes x = new GlulxModes();
            x.lay(300, 4, four);
            b.due("only 28 bits count", x.read(300), 6);
            b.due("row 0", x.row(0), 16);
        }
        long[] none = {0xC1000010L, 0xC8000010L, 0xC0010010L, 0xC0004010L, 0xFFFFFFFFL};
        for (long four : none) {
            GlulxModes x = new GlulxModes();
            x.lay(300, 4, four);
            b.due("all 28 bits count", x.read(300), -13);
        }
        GlulxModes x = new GlulxModes();
        x.lay(300, 2, 0xBFFFL);
        b.due("14 bits", x.read(300), -13);
        x.lay(300, 2, 0x8151L);
        b.due("14 bits", x.read(300), 6);
        x.lay(300, 2, 0x9010L);
        b.due("14 bits", x.read(300), -13);
    }

    private static void numbers(Bench b) {
        int[] loads = {0, 1, 2, 3, 5, 6, 7, 8, 9, 10, 11, 13, 14, 15};
        for (int mode : loads) {
            GlulxModes x = new GlulxModes();
            Bench.lay(x, 300, 0x24, Bench.as(mode, 0x81F2F3F4), Bench.as(3, 0x01020304), Bench.as(mode, 0x7A6B5C4D));
            int width = Bench.widthOf(mode);
            b.due("size " + mode, x.read(300), 1 + 2 + 4 + 2 * width);
            b.due("mode 0", x.row(10), mode);
            b.due("mode 1", x.row(11), 3);
            b.due("mode 2", x.row(12), mode);
            int first = width == 0 ? 0 : width == 1 ? 0xF4 : width == 2 ? 0xF3F4 : 0x81F2F3F4;
            if (mode == 1) {
                first = (byte) 0xF4;
            }
            if (mode == 2) {
                first = (short) 0xF3F4;
            }
            int last = width == 0 ? 0 : width == 1 ? 0x4D : width == 2 ? 0x5C4D : 0x7A6B5C4D;
            b.due("number 0 of mode " + mode, x.row(20), first);
            b.due("number 1", x.row(21), 0x01020304);
            b.due("number 2 of mode " + mode, x.row(22), last);
            b.due("no operand 3", x.row(13), -2);
            b.due("no operand 3", x.row(23), -2);
        }
        GlulxModes x = new GlulxModes();
        Bench.Operand[] eight = new Bench.Operand[8];
        for (int k = 0; k < 8; k++) {
            eight[k] = Bench.as(k % 2 == 0 ? 5 : 10, 100 + k);
        }
        Bench.lay(x, 300, 0x151, eight);
        b.due("size of eight", x.read(300), 2 + 4 + 12);
        for (int k = 0; k < 8; k++) {
            b.due("mode " + k, x.row(10 + k), k % 2 == 0 ? 5 : 10);
            b.due("number " + k, x.row(20 + k), 100 + k);
        }
        for (int k = 8; k < 10; k++) {
            b.due("no operand " + k, x.row(10 + k), -2);
            b.due("no operand " + k, x.row(20 + k), -2);
        }
    }

    private static void latest(Bench b) {
        GlulxModes x = new GlulxModes();
        Bench.lay(x, 300, 0x10, Bench.num(5), Bench.num(-7), Bench.loc(8));
        Bench.lay(x, 400, 0x31, Bench.mem(700));
        b.due("read", x.read(300), 6);
        x.lay(500, 2, 0x1044L);
        b.due("a fault of modes", x.read(500), -12);
        b.due("a fault of operations", x.lay(510, 1, 0x7FL), 1);
        b.due("a fault of operations", x.read(510), -13);
        b.due("outside", x.read(1024), -11);
        x.go(400);
        x.push(3);
        b.due("a step reads nothing", x.step(), 0);
        x.lay(300, 1, 0x11L);
        b.due("row 0 stays", x.row(0), 16);
        b.due("row 1", x.row(1), 3);
        b.due("row 11", x.row(11), 1);
        b.due("row 12", x.row(12), 9);
        b.due("row 21", x.row(21), -7);
        b.due("row 22", x.row(22), 8);
        b.due("read the other", x.read(400), 4);
        b.due("row 0", x.row(0), 0x31);
        b.due("row 1", x.row(1), 1);
        b.due("row 10", x.row(10), 6);
        b.due("row 20", x.row(20), 700);
        b.due("row 11", x.row(11), -2);
        b.due("row 21", x.row(21), -2);
        b.due("reading does nothing", x.told(6), 1);
        b.due("reading keeps the stack", x.told(3), 1);
        b.due("reading keeps pc", x.told(0), 404);
        b.due("reading makes no fault", x.told(5), 0);
    }

    private static void wrongWhats(Bench b) {
        GlulxModes x = new GlulxModes();
        for (int turn = 0; turn < 2; turn++) {
            int[] bad = {-1, -10, Bench.MIN, 2, 5, 9};
            for (int what : bad) {
                b.due("row " + what, x.row(what), -1);
            }
            int[] none = {10, 18, 19, 20, 28, 30, 1024, Bench.MAX};
            for (int what : none) {
                b.due("row " + what, x.row(what), -2);
            }
            x.read(600);
            b.due("row 0 of nothing", x.row(0), 0);
            b.due("row 1 of nothing", x.row(1), 0);
        }
    }

    private static void edges(Bench b) {
        GlulxModes x = new GlulxModes();
        int[] outside = {-1, -2, -4, 1024, 1025, Bench.MAX, Bench.MIN};
        for (int at : outside) {
            b.due("read " + at, x.read(at), -11);
        }
        b.due("the last byte", x.read(1023), 1);
        x.lay(1023, 1, 0x81L);
        b.due("half of two bytes", x.read(1023), -11);
        x.lay(1022, 2, 0x8120L);
        b.due("two bytes", x.read(1022), 2);
        x.lay(1021, 3, 0xC00000L);
        b.due("three of four bytes", x.read(1021), -11);
        x.lay(1020, 4, 0xC0000120L);
        b.due("four bytes", x.read(1020), 4);
        x.lay(1023, 1, 0x20L);
        b.due("no modes", x.read(1023), -11);
        x.lay(1022, 2, 0x2000L);
        b.due("a mode of no bytes", x.read(1022), 2);
        x.lay(1022, 2, 0x2001L);
        b.due("no number", x.read(1022), -11);
        x.lay(1021, 3, 0x200105L);
        b.due("a number of one byte", x.read(1021), 3);
        x.lay(1021, 3, 0x200205L);
        b.due("half a number", x.read(1021), -11);
        x.lay(1019, 5, 0x2003010203L);
        b.due("three of four", x.read(1019), -11);
        x.lay(1018, 6, 0x200301020304L);
        b.due("a number of four bytes", x.read(1018), 6);
        x.lay(1022, 2, 0x1011L);
        b.due("second byte of modes is not there", x.read(1022), -11);
    }

    private static void faultOrder(Bench b) {
        GlulxModes x = new GlulxModes();
        x.lay(1023, 1, 0x7FL);
        b.due("no operation before its modes are missed", x.read(1023), -13);
        x.lay(1020, 4, 0x10140005L);
        b.due("mode 4 wants nothing", x.read(1020), -12);
        x.lay(1021, 3, 0x101400L);
        b.due("outside before mode", x.read(1021), -11);
        x.lay(1021, 3, 0x104400L);
        b.due("mode when all is there", x.read(1021), -12);
        x.lay(1021, 3, 0x10C40CL);
        b.due("modes 4 and 12", x.read(1021), -12);
        int[] modes = {4, 12};
        for (int mode : modes) {
            for (int k = 0; k < 3; k++) {
                Bench.Operand[] three = {Bench.NIL, Bench.NIL, Bench.NIL};
                three[k] = Bench.as(mode, 0);
                Bench.lay(x, 300, 0x24, three);
                b.due("mode " + mode + " of operand " + k, x.read(300), -12);
            }
        }
        x.lay(300, 3, 0x1000F0L);
        b.due("higher bits of the last mode", x.read(300), 3);
        x.lay(300, 3, 0x100040L);
        b.due("even if it is 4", x.read(300), 3);
        x.lay(300, 3, 0x1000C0L);
        b.due("even if it is 12", x.read(300), 3);
        x.lay(300, 2, 0x3140L);
        b.due("of one operand", x.read(300), 2);
    }

    private static void stores(Bench b) {
        for (String pair : COUNTS.split(" ")) {
            int op = Integer.parseInt(pair.split(":")[0], 16);
            int count = countOf(op);
            boolean stores = STORES.contains(" " + pair.split(":")[0] + " ");
            for (int mode = 0; mode < 16 && count > 0; mode++) {
                GlulxModes x = new GlulxModes();
                Bench.Operand[] all = new Bench.Operand[count];
                java.util.Arrays.fill(all, Bench.NIL);
                all[count - 1] = Bench.as(mode, 0);
                Bench.lay(x, 300, op, all);
                boolean wrong = mode == 4 || mode == 12 || stores && mode >= 1 && mode <= 3;
                int size = (op < 128 ? 1 : 2) + (count + 1) / 2 + Bench.widthOf(mode);
                b.due("store of " + pair + " mode " + mode, x.read(300), wrong ? -12 : size);
            }
        }
    }
}
