/** What the tests share: counting wrong answers, and writing rows as bytes. */
final class Bench {
    static final int OUTSIDE = -11, MODE = -12, OPERATION = -13, UNDER = -14, FULL = -15;
    static final int ZERO = -16, LOCAL = -17, FIXED = -18, KEY = -19;
    static final int MIN = Integer.MIN_VALUE, MAX = Integer.MAX_VALUE;

    /** An operand: its mode and its number. */
    static final class Operand {
        final int mode;
        final int number;

        Operand(int mode, int number) {
            this.mode = mode;
            this.number = number;
        }
    }

    static final Operand NIL = new Operand(0, 0);
    static final Operand TOP = new Operand(8, 0);

    private int wrong = 0;
    private int asked = 0;
    private int askedOfSentence = 1;
    private String sentence = "";

    /** The words of the document that the answers from here on are about; a sentence without any is a wrong answer. */
    void sentence(String words) {
        nothingAskedIsWrong();
        sentence = "\"" + words + "\": ";
        askedOfSentence = 0;
    }

    private void nothingAskedIsWrong() {
        if (askedOfSentence == 0) {
            due("nothing was asked: ", 0, 1);
        }
    }

    void due(String call, long got, long want) {
        asked++;
        askedOfSentence++;
        if (got != want) {
            wrong++;
            System.out.println(sentence + call + " answered " + got + ", due is " + want);
        }
    }

    void end() {
        nothingAskedIsWrong();
        System.out.println(asked + " answers, " + wrong + " wrong");
        if (wrong != 0 || asked == 0) {
            System.exit(1);
        }
    }

    static Operand num(int v) {
        return new Operand(v == (byte) v ? 1 : v == (short) v ? 2 : 3, v);
    }

    static Operand mem(int at) {
        return new Operand(at >= 0 && at < 256 ? 5 : at >= 0 && at < 65536 ? 6 : 7, at);
    }

    static Operand loc(int at) {
        return new Operand(at >= 0 && at < 256 ? 9 : at >= 0 && at < 65536 ? 10 : 11, at);
    }

    static Operand ofRam(int at) {
        return new Operand(at >= 0 && at < 256 ? 13 : at >= 0 && at < 65536 ? 14 : 15, at);
    }

    static Operand as(int mode, int number) {
        return new Operand(mode, number);
    }

    static int widthOf(int mode) {
        return new int[] {0, 1, 2, 4}[mode % 4];
    }

    /** The bytes of a row, its operation written as short as can be. */
    static byte[] bytes(int operation, Operand... operands) {
        java.io.ByteArrayOutputStream out = new java.io.ByteArrayOutputStream();
        if (operation < 0x80) {
            out.write(operation);
        } else {
            out.write(0x80 | operation >> 8);
            out.write(operation);
        }
        for (int k = 0; k < operands.length; k += 2) {
            out.write(operands[k].mode | (k + 1 < operands.length ? operands[k + 1].mode << 4 : 0));
        }
        for (Operand operand : operands) {
            for (int k = widthOf(operand.mode) - 1; k >= 0; k--) {
                out.write(operand.number >> 8 * k);
            }
        }
        return out.toByteArray();
    }

    static int lay(GlulxModes x, int at, byte... bytes) {
        for (int k = 0; k < bytes.length; k += 8) {
            int n = Math.min(8, bytes.length - k);
            long v = 0;
            for (int i = 0; i < n; i++) {
                v = v << 8 | bytes[k + i] & 0xFF;
            }
            x.lay(at + k, n, v);
        }
        return at + bytes.length;
    }

    static int lay(GlulxModes x, int at, int operation, Operand... operands) {
        return lay(x, at, bytes(operation, operands));
    }

    /** Lays the row at 16, goes there and does it. */
    static int act(GlulxModes x, int operation, Operand... operands) {
        lay(x, 16, operation, operands);
        x.go(16);
        return x.step();
    }

    /** What a row that stores gives: its store is added, on the stack, and taken off again by clear. */
    static int value(int operation, Operand... loads) {
        Operand[] all = java.util.Arrays.copyOf(loads, loads.length + 1);
        all[loads.length] = TOP;
        GlulxModes x = new GlulxModes();
        int answer = act(x, operation, all);
        return answer == 1 ? x.stack(0) : answer;
    }

    static int word(GlulxModes x, int at) {
        return x.octet(at) << 24 | x.octet(at + 1) << 16 | x.octet(at + 2) << 8 | x.octet(at + 3);
    }

    static GlulxModes pushed(int... values) {
        GlulxModes x = new GlulxModes();
        for (int v : values) {
            x.push(v);
        }
        return x;
    }

    /** A stack of 1, 2, .. n, with n at the top. */
    static GlulxModes pushedUpTo(int n) {
        GlulxModes x = new GlulxModes();
        for (int v = 1; v <= n; v++) {
            x.push(v);
        }
        return x;
    }

    /** The stack from the lowest to the top, as a text. */
    static String pile(GlulxModes x) {
        StringBuilder text = new StringBuilder();
        for (int k = x.told(3) - 1; k >= 0; k--) {
            text.append(x.stack(k)).append(k > 0 ? " " : "");
        }
        return text.toString();
    }

    /** All that can be told but the fault, and the bytes of a part of memory, as a text. */
    static String state(GlulxModes x, int from, int to) {
        StringBuilder text = new StringBuilder();
        int[] told = {0, 1, 2, 3, 4, 6};
        for (int what : told) {
            text.append(x.told(what)).append(' ');
        }
        for (int at = 0; at < 64; at += 4) {
            text.append(x.local(at)).append(' ');
        }
        text.append("stack ").append(pile(x)).append(" row ").append(x.row(0)).append(' ').append(x.row(1));
        for (int at = from; at < to; at++) {
            text.append(' ').append(x.octet(at));
        }
        return text.toString();
    }

    void same(String what, String got, String want) {
        if (!got.equals(want)) {
            System.out.println(what + ": [" + got + "], due is [" + want + "]");
        }
        due(what + " alike", got.equals(want) ? 1 : 0, 1);
    }
}
