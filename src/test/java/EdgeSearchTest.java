/** Terms 3, operations 150 and 151: the sentences that name a boundary case, one by one. */
public final class EdgeSearchTest {
    private static final int MIN = Bench.MIN, MAX = Bench.MAX;
    private static final int LINE = 0x150, HALVES = 0x151;
    private static final int INDIRECT = 1, ENDED = 2, PLACE = 4;
    private static final int[] BOTH = {LINE, HALVES};

    private final Bench b = new Bench();

    public static void main(String[] args) {
        EdgeSearchTest t = new EdgeSearchTest();
        t.otherBits();
        t.directKeys();
        t.directSizes();
        t.indirectKeys();
        t.indirectSizes();
        t.keyOutside();
        t.eachOutside();
        t.notLookedAt();
        t.firstAlike();
        t.withoutSign();
        t.atMost();
        t.ended();
        t.keyBeforeEnd();
        t.halvesOfNoneAndOne();
        t.halvesMiddle();
        t.halvesWithoutSign();
        t.halvesAtMost();
        t.halvesOrder();
        t.halvesDoNotEnd();
        t.whatIsFound();
        t.notFound();
        t.storedLast();
        t.b.end();
    }

    private static int search(GlulxModes x, int op, int... l) {
        Bench.Operand[] all = new Bench.Operand[8];
        for (int k = 0; k < 7; k++) {
            all[k] = Bench.num(l[k]);
        }
        all[7] = Bench.loc(0);
        int answer = Bench.act(x, op, all);
        return answer == 1 ? x.local(0) : answer;
    }

    /** Looks for a key in all of memory; the key comes off the stack, as the row itself lies in memory. */
    private static int searchAll(GlulxModes x, int op, int key, int howMany) {
        Bench.Operand n = Bench.NIL;
        Bench.Operand one = Bench.num(1);
        x.push(key);
        int answer = Bench.act(x, op, Bench.TOP, one, n, one, Bench.num(howMany), n, Bench.num(PLACE), Bench.loc(0));
        return answer == 1 ? x.local(0) : answer;
    }

    /** Bytes at 600: these. */
    private static GlulxModes table(int... bytes) {
        GlulxModes x = new GlulxModes();
        for (int k = 0; k < bytes.length; k++) {
            x.lay(600 + k, 1, bytes[k]);
        }
        return x;
    }

    private void otherBits() {
        b.sentence("OPTIONS (1 INDIRECT, 2 ENDED, 4 PLACE; other bits are not looked at)");
        for (int op : BOTH) {
            GlulxModes x = table(5, 0, 7);
            for (int bit = 3; bit < 32; bit++) {
                b.due("bit " + bit, search(x, op, 0, 1, 600, 1, 3, 0, 1 << bit), 601);
            }
            b.due("all others", search(x, op, 0, 1, 600, 1, 3, 0, ~7), 601);
            b.due("all others, PLACE", search(x, op, 0, 1, 600, 1, 3, 0, ~7 | PLACE), 1);
            b.due("all others, INDIRECT", search(x, op, 601, 1, 600, 1, 3, 0, ~7 | INDIRECT), 601);
        }
        GlulxModes x = table(5, 0, 7);
        b.due("all others, ENDED", search(x, LINE, 7, 1, 600, 1, 3, 0, ~7 | ENDED), 0);
        b.due("all others, not ENDED", search(x, LINE, 7, 1, 600, 1, 3, 0, ~7), 602);
        b.due("all bits", search(x, LINE, 602, 1, 600, 1, 3, 0, -1), -1);
    }

    private void directKeys() {
        b.sentence("else the lowest SIZE (1, 2, 4; else KEY) bytes of it");
        for (int op : BOTH) {
            GlulxModes x = table(0x81, 0x82, 0x83, 0x84);
            int[] ones = {0x81, 0x12345681, 0xFFFFFF81, 0x80000081};
            for (int key : ones) {
                b.due("one of " + key, search(x, op, key, 1, 600, 1, 1, 0, PLACE), 0);
            }
            int[] twos = {0x8182, 0x12348182, 0xFFFF8182};
            for (int key : twos) {
                b.due("two of " + key, search(x, op, key, 2, 600, 1, 1, 0, PLACE), 0);
            }
            b.due("two are two", search(x, op, 0x81, 2, 600, 1, 1, 0, PLACE), -1);
            b.due("two in their order", search(x, op, 0x8281, 2, 600, 1, 1, 0, PLACE), -1);
            b.due("four", search(x, op, 0x81828384, 4, 600, 1, 1, 0, PLACE), 0);
            b.due("four are four", search(x, op, 0x81828385, 4, 600, 1, 1, 0, PLACE), -1);
            b.due("four are four", search(x, op, 0x01828384, 4, 600, 1, 1, 0, PLACE), -1);
        }
    }

    private void directSizes() {
        b.sentence("the lowest SIZE (1, 2, 4; else KEY)");
        int[] wrong = {0, 3, 5, 6, 7, 8, 64, 65, -1, -2, -4, MIN, MAX, 0x101};
        for (int op : BOTH) {
            GlulxModes x = new GlulxModes();
            for (int size : wrong) {
                b.due("SIZE " + size, search(x, op, 0, size, 600, 1, 1, 0, 0), Bench.KEY);
                b.due("SIZE " + size + " of none", search(x, op, 0, size, 600, 1, 0, 0, PLACE), Bench.KEY);
                b.due("SIZE " + size + " before OUTSIDE", search(x, op, 0, size, -1, 1, 1, 0, ENDED), Bench.KEY);
            }
            int[] right = {1, 2, 4};
            for (int size : right) {
                b.due("SIZE " + size, search(x, op, 0, size, 600, 1, 1, 0, 0), 600);
            }
        }
    }

    private void indirectKeys() {
        b.sentence("The KEY: SIZE bytes from byte KEY on, if INDIRECT");
        for (int op : BOTH) {
            GlulxModes x = new GlulxModes();
            for (int k = 0; k < 64; k++) {
                x.lay(600 + k, 1, 10 + k);
                x.lay(960 + k, 1, 10 + k);
            }
            b.due("64 up to the end of MEMORY", search(x, op, 960, 64, 600, 1, 1, 0, INDIRECT), 600);
            b.due("three", search(x, op, 1021, 3, 600, 1, 1, 61, INDIRECT), 600);
            b.due("one", search(x, op, 1023, 1, 600, 1, 1, 63, INDIRECT), 600);
            x.lay(1023, 1, 9);
            b.due("the last of 64 differs", search(x, op, 960, 64, 600, 1, 1, 0, INDIRECT), 0);
            b.due("63 are alike", search(x, op, 960, 63, 600, 1, 1, 0, INDIRECT), 600);
            x.lay(0, 1, 10);
            b.due("from byte 0", search(x, op, 0, 1, 600, 1, 1, 0, INDIRECT), 600);
        }
    }

    private void indirectSizes() {
        b.sentence("INDIRECT with a SIZE that is not 1 to 64: KEY, too");
        int[] wrong = {0, 65, 66, 128, -1, -64, MIN, MAX, 1024};
        for (int op : BOTH) {
            GlulxModes x = new GlulxModes();
            for (int size : wrong) {
                b.due("SIZE " + size, search(x, op, 300, size, 600, 1, 1, 0, INDIRECT), Bench.KEY);
                b.due("SIZE " + size + " of none", search(x, op, 300, size, 600, 1, 0, 0, INDIRECT), Bench.KEY);
                b.due("before OUTSIDE", search(x, op, -1, size, -1, 1, 1, 0, INDIRECT), Bench.KEY);
            }
            int[] right = {1, 2, 3, 4, 5, 63, 64};
            for (int size : right) {
                b.due("SIZE " + size, search(x, op, 300, size, 600, 1, 1, 0, INDIRECT), 600);
            }
        }
    }

    private void keyOutside() {
        b.sentence("then OUTSIDE of the KEY");
        for (int op : BOTH) {
            GlulxModes x = new GlulxModes();
            int[][] outside = {{1024, 1}, {1023, 2}, {961, 64}, {-1, 1}, {-1, 64}, {MIN, 1}, {MAX, 1}, {MAX, 64}};
            for (int[] key : outside) {
                b.due("KEY at " + key[0], search(x, op, key[0], key[1], 600, 1, 1, 0, INDIRECT), Bench.OUTSIDE);
                b.due("even of none", search(x, op, key[0], key[1], 600, 1, 0, 0, INDIRECT), Bench.OUTSIDE);
            }
            b.due("KEY at the end", search(x, op, 1023, 1, 600, 1, 1, 0, INDIRECT), 600);
            b.due("KEY at the end", search(x, op, 960, 64, 600, 1, 1, 0, INDIRECT), 600);
            b.due("a KEY that is no place", search(x, op, -1, 1, 600, 1, 1, 0, 0), 0);
        }
    }

    private void eachOutside() {
        b.sentence("OUTSIDE of the KEY, and of each that is looked at");
        for (int op : BOTH) {
            GlulxModes x = new GlulxModes();
            int[][] starts = {{1024, 0}, {-1, 0}, {1023, 1}, {0, -1}, {0, 1024}, {MAX, 0}, {MIN, 0}, {MAX, 1}};
            for (int[] start : starts) {
                String name = "START " + start[0] + ", key at " + start[1];
                b.due(name, search(x, op, 5, 1, start[0], 1, 1, start[1], PLACE), Bench.OUTSIDE);
            }
            b.due("the last byte", search(x, op, 5, 1, 1023, 1, 1, 0, PLACE), -1);
            b.due("the first byte", search(x, op, 5, 1, 0, 1, 1, 0, PLACE), -1);
            b.due("two bytes at the end", search(x, op, 5, 2, 1022, 1, 1, 0, PLACE), -1);
            b.due("one is missed", search(x, op, 5, 2, 1023, 1, 1, 0, PLACE), Bench.OUTSIDE);
            b.due("four bytes at the end", search(x, op, 5, 4, 1020, 1, 1, 0, PLACE), -1);
            b.due("one is missed", search(x, op, 5, 4, 1021, 1, 1, 0, PLACE), Bench.OUTSIDE);
            b.due("64 bytes at the end", search(x, op, 500, 64, 960, 1, 1, 0, INDIRECT), 960);
            b.due("one is missed", search(x, op, 500, 64, 961, 1, 1, 0, INDIRECT), Bench.OUTSIDE);
        }
        GlulxModes x = new GlulxModes();
        b.due("the second is not there", search(x, LINE, 5, 1, 1023, 1, 2, 0, PLACE), Bench.OUTSIDE);
        b.due("by halves the second is the first looked at", search(x, HALVES, 5, 1, 1023, 1, 2, 0, PLACE), Bench.OUTSIDE);
        b.due("backward", search(x, LINE, 5, 1, 1, -1, 2, 0, PLACE), -1);
        b.due("backward, too far", search(x, LINE, 5, 1, 1, -1, 3, 0, PLACE), Bench.OUTSIDE);
    }

    private void notLookedAt() {
        b.sentence("of each that is looked at");
        GlulxModes x = new GlulxModes();
        x.lay(1022, 2, 0x0507L);
        b.due("found before", search(x, LINE, 7, 1, 1022, 1, 9, 0, PLACE), 1);
        b.due("ended before", search(x, LINE, 9, 1, 1021, 1, 9, 0, PLACE | ENDED), -1);
        b.due("not ended before", search(x, LINE, 9, 1, 1021, 1, 9, 0, PLACE), Bench.OUTSIDE);
        b.due("none is", search(x, LINE, 9, 1, 5000, 1, 0, 0, PLACE), -1);
        b.due("none is, by halves", search(x, HALVES, 9, 1, 5000, 1, 0, 0, PLACE), -1);
        b.due("by halves, the lower ones", search(x, HALVES, 1, 1, 1021, 1, 4, 0, PLACE), -1);
        b.due("by halves, the upper ones", search(x, HALVES, 9, 1, 1021, 1, 4, 0, PLACE), Bench.OUTSIDE);
        b.due("by halves, the middle", search(x, HALVES, 7, 1, 1021, 1, 4, 0, PLACE), 2);
    }

    private void firstAlike() {
        b.sentence("One by one: the first whose key is alike");
        GlulxModes x = table(1, 9, 3, 9, 9);
        b.due("of three", search(x, LINE, 9, 1, 600, 1, 5, 0, PLACE), 1);
        b.due("the first of all", search(x, LINE, 1, 1, 600, 1, 5, 0, PLACE), 0);
        b.due("the last of three", search(x, LINE, 3, 1, 600, 1, 3, 0, PLACE), 2);
        b.due("one too few", search(x, LINE, 3, 1, 600, 1, 2, 0, PLACE), -1);
        b.due("of none", search(x, LINE, 1, 1, 600, 1, 0, 0, PLACE), -1);
        b.due("all in one place", search(x, LINE, 1, 1, 600, 0, 5, 0, PLACE), 0);
    }

    private void withoutSign() {
        b.sentence("how many: without a sign");
        GlulxModes x = table(1, 2, 3);
        int[] many = {-1, MIN, MAX, -1024, -1000000};
        for (int n : many) {
            b.due(n + " are many", search(x, LINE, 3, 1, 600, 1, n, 0, PLACE), 2);
        }
    }

    private void atMost() {
        b.sentence("1024 at most are looked at");
        GlulxModes x = new GlulxModes();
        x.lay(1023, 1, 99);
        int[] many = {1024, 1025, 2000, 65536, MAX, MIN, -1};
        for (int n : many) {
            b.due("the 1024th of " + n, searchAll(x, LINE, 99, n), 1023);
            b.due("no 1025th of " + n, searchAll(x, LINE, 98, n), -1);
            b.due("over and over, of " + n, search(x, LINE, 98, 1, 700, 0, n, 0, PLACE), -1);
        }
        b.due("the 1024th of 1023", searchAll(x, LINE, 99, 1023), -1);
    }

    private void ended() {
        b.sentence("ENDED: none, if one comes before whose key has 0 alone");
        GlulxModes x = table(5, 5, 0, 7, 7, 0, 0, 0, 8, 8);
        b.due("0 in front", search(x, LINE, 0x0808, 2, 600, 2, 5, 0, ENDED | PLACE), -1);
        b.due("not ENDED", search(x, LINE, 0x0808, 2, 600, 2, 5, 0, PLACE), 4);
        b.due("0 and 7 is no end", search(x, LINE, 0x0700, 2, 600, 2, 5, 0, ENDED | PLACE), 2);
        b.due("7 and 0 is no end, 0 and 0 is", search(x, LINE, 0x0808, 2, 600, 2, 5, 0, ENDED), 0);
        b.due("before the end", search(x, LINE, 0x0007, 2, 600, 2, 5, 0, ENDED), 602);
        b.due("at once", search(x, LINE, 8, 1, 606, 1, 4, 0, ENDED | PLACE), -1);
        b.due("without an end", search(x, LINE, 8, 1, 608, 1, 2, 0, ENDED | PLACE), 0);
        b.due("the end's key is behind its first byte", search(x, LINE, 8, 1, 606, 2, 2, 1, ENDED | PLACE), -1);
        x = table(5, 0, 0, 7, 8, 8);
        b.due("a 0 before the key, and its first byte", search(x, LINE, 0x0808, 2, 600, 2, 3, 0, ENDED | PLACE), 2);
        x = table(5, 7, 7, 0, 0, 8);
        b.due("a 0 behind the key, and its last byte", search(x, LINE, 0x0008, 2, 600, 2, 3, 0, ENDED | PLACE), 2);
        x = table(5, 0, 8);
        b.due("INDIRECT is not ENDED", search(x, LINE, 602, 1, 600, 1, 3, 0, INDIRECT), 602);
        b.due("PLACE is not ENDED", search(x, LINE, 8, 1, 600, 1, 3, 0, PLACE), 2);
        b.due("INDIRECT and ENDED", search(x, LINE, 602, 1, 600, 1, 3, 0, INDIRECT | ENDED), 0);
        x = table(0, 4, 0, 5, 0, 6);
        b.due("a 0 beside the key", search(x, LINE, 6, 1, 600, 2, 3, 1, ENDED | PLACE), 2);
    }

    private void keyBeforeEnd() {
        b.sentence("(the KEY is compared first)");
        GlulxModes x = table(5, 0, 0, 6);
        b.due("a KEY of 0", search(x, LINE, 0, 1, 600, 1, 4, 0, ENDED | PLACE), 1);
        b.due("where it begins", search(x, LINE, 0, 1, 600, 1, 4, 0, ENDED), 601);
        b.due("a KEY of two 0", search(x, LINE, 0, 2, 600, 1, 3, 0, ENDED | PLACE), 1);
        b.due("an INDIRECT KEY of 0", search(x, LINE, 700, 2, 600, 1, 3, 0, ENDED | PLACE | INDIRECT), 1);
    }

    private void halvesOfNoneAndOne() {
        b.sentence("By halves: b is 0, t how many .. as long as b is below t");
        GlulxModes x = table(5, 6);
        b.due("of none", search(x, HALVES, 5, 1, 600, 1, 0, 0, PLACE), -1);
        b.due("of one, it", search(x, HALVES, 5, 1, 600, 1, 1, 0, PLACE), 0);
        b.due("of one, less", search(x, HALVES, 4, 1, 600, 1, 1, 0, PLACE), -1);
        b.due("of one, greater", search(x, HALVES, 6, 1, 600, 1, 1, 0, PLACE), -1);
        b.due("of two, the first", search(x, HALVES, 5, 1, 600, 1, 2, 0, PLACE), 0);
        b.due("of two, the second", search(x, HALVES, 6, 1, 600, 1, 2, 0, PLACE), 1);
        b.due("of two, less", search(x, HALVES, 4, 1, 600, 1, 2, 0, PLACE), -1);
        b.due("of two, greater", search(x, HALVES, 7, 1, 600, 1, 2, 0, PLACE), -1);
    }

    private void halvesMiddle() {
        b.sentence("m is (b + t) / 2; if that one's key is alike, it is found");
        GlulxModes x = table(7, 7, 7, 7, 7, 7, 7, 7);
        for (int n = 1; n <= 8; n++) {
            b.due("of " + n, search(x, HALVES, 7, 1, 600, 1, n, 0, PLACE), n / 2);
        }
        x = table(7, 1, 7, 9, 9, 1, 7);
        b.due("less: above it", search(x, HALVES, 9, 1, 600, 1, 3, 0, PLACE), -1);
        b.due("the second middle, above", search(x, HALVES, 7, 1, 600, 1, 3, 0, PLACE), 2);
        b.due("the second middle, below", search(x, HALVES, 1, 1, 600, 1, 6, 0, PLACE), 1);
        b.due("0 is below all", search(x, HALVES, 0, 1, 600, 1, 6, 0, PLACE), -1);
    }

    private void halvesWithoutSign() {
        b.sentence("t how many (without a sign, 1024 at most)");
        GlulxModes x = new GlulxModes();
        x.lay(1022, 2, 0x6263L);
        int[] many = {1024, 1025, 1026, 65536, MAX, MIN, -1};
        for (int n : many) {
            b.due("the last of " + n, searchAll(x, HALVES, 0x63, n), 1023);
            b.due("none behind it, of " + n, searchAll(x, HALVES, 0x64, n), -1);
        }
        b.due("the last of 1023", searchAll(x, HALVES, 0x62, 1023), 1022);
        b.due("not the 1024th", searchAll(x, HALVES, 0x63, 1023), -1);
    }

    private void halvesAtMost() {
        b.sentence("b is 0, t how many (without a sign, 1024 at most)");
        GlulxModes x = new GlulxModes();
        int[] many = {1024, 1025, 2048, MAX, MIN, -1};
        for (int n : many) {
            b.due("the middle of " + n, search(x, HALVES, 0, 1, 700, 0, n, 0, PLACE), 512);
        }
        b.due("the middle of 1023", search(x, HALVES, 0, 1, 700, 0, 1023, 0, PLACE), 511);
    }

    private void halvesOrder() {
        b.sentence("if it is less (byte by byte, without signs, the first first) than the KEY, b is m + 1, else t is m");
        GlulxModes x = table(0x01, 0x7F, 0x7F, 0x80, 0x80, 0x00, 0x80, 0xFF, 0xFF, 0x00);
        int[] keys = {0x017F, 0x7F80, 0x8000, 0x80FF, 0xFF00};
        for (int k = 0; k < 5; k++) {
            b.due("key " + keys[k], search(x, HALVES, keys[k], 2, 600, 2, 5, 0, PLACE), k);
            b.due("INDIRECT", search(x, HALVES, 600 + 2 * k, 2, 600, 2, 5, 0, PLACE | INDIRECT), k);
            b.due("one less", search(x, HALVES, keys[k] - 1, 2, 600, 2, 5, 0, PLACE), -1);
            b.due("one greater", search(x, HALVES, keys[k] + 1, 2, 600, 2, 5, 0, PLACE), -1);
        }
        x = table(0x7F, 0xFF, 0xFF, 0xFF, 0x80, 0x00, 0x00, 0x00);
        b.due("four without signs", search(x, HALVES, 0x7FFFFFFF, 4, 600, 4, 2, 0, PLACE), 0);
        b.due("four without signs", search(x, HALVES, 0x80000000, 4, 600, 4, 2, 0, PLACE), 1);
        x = table(1, 1, 1, 1, 7, 7);
        b.due("b is m + 1, not m", search(x, HALVES, 7, 1, 600, 1, 6, 0, PLACE), 5);
        x = table(7, 7, 7, 7, 9, 9, 9, 9);
        b.due("t is m, not m - 1", search(x, HALVES, 7, 1, 600, 1, 8, 0, PLACE), 2);
        x = table(9, 8, 7, 6, 5);
        b.due("not in order, the middle", search(x, HALVES, 7, 1, 600, 1, 5, 0, PLACE), 2);
        b.due("not in order", search(x, HALVES, 9, 1, 600, 1, 5, 0, PLACE), -1);
        b.due("not in order", search(x, HALVES, 5, 1, 600, 1, 5, 0, PLACE), -1);
    }

    private void halvesDoNotEnd() {
        b.sentence("One by one: .. ENDED: none, if one comes before");
        GlulxModes x = table(0, 0, 0, 4, 5);
        b.due("behind keys of 0", search(x, HALVES, 5, 1, 600, 1, 5, 0, PLACE | ENDED), 4);
        b.due("behind keys of 0", search(x, HALVES, 4, 1, 600, 1, 5, 0, PLACE | ENDED), 3);
    }

    private void whatIsFound() {
        b.sentence("What is found: its number, if PLACE, else where it begins");
        for (int op : BOTH) {
            GlulxModes x = table(0, 0, 5, 0, 0, 0, 6, 0);
            b.due("the number of the first", search(x, op, 5, 1, 600, 4, 2, 2, PLACE), 0);
            b.due("the number of the second", search(x, op, 6, 1, 600, 4, 2, 2, PLACE), 1);
            b.due("where the first begins", search(x, op, 5, 1, 600, 4, 2, 2, 0), 600);
            b.due("where the second begins, not its key", search(x, op, 6, 1, 600, 4, 2, 2, 0), 604);
            x.lay(0, 1, 9);
            b.due("one at 0", search(x, op, 9, 1, 0, 4, 1, 0, 0), 0);
            b.due("one below 0", search(x, op, 6, 1, -394, 4, 1, 1000, 0), -394);
        }
    }

    private void notFound() {
        b.sentence("not found: -1, else 0");
        for (int op : BOTH) {
            GlulxModes x = table(5, 6, 7);
            b.due("PLACE", search(x, op, 9, 1, 600, 1, 3, 0, PLACE), -1);
            b.due("no PLACE", search(x, op, 9, 1, 600, 1, 3, 0, 0), 0);
            b.due("PLACE, of none", search(x, op, 5, 1, 600, 1, 0, 0, PLACE), -1);
            b.due("no PLACE, of none", search(x, op, 5, 1, 600, 1, 0, 0, 0), 0);
        }
        GlulxModes x = table(0, 6, 7);
        b.due("PLACE, ENDED", search(x, LINE, 7, 1, 600, 1, 3, 0, PLACE | ENDED), -1);
        b.due("no PLACE, ENDED", search(x, LINE, 7, 1, 600, 1, 3, 0, ENDED), 0);
    }

    private void storedLast() {
        b.sentence("each loaded, then done, then stored");
        Bench.Operand n = Bench.NIL;
        Bench.Operand one = Bench.num(1);
        for (int op : BOTH) {
            GlulxModes x = Bench.pushed(3, PLACE, 0, 1, 1, 600, 1, 0);
            Bench.Operand t = Bench.TOP;
            b.due("seven are taken off", Bench.act(x, op, t, t, t, t, t, t, t, t), 1);
            b.same("the first is the KEY, the seventh OPTIONS", Bench.pile(x), "3 0");
            b.due("not found, FIXED", Bench.act(x, op, one, one, n, n, one, n, n, Bench.mem(0)), Bench.FIXED);
            b.due("KEY before FIXED", Bench.act(x, op, one, n, n, n, one, n, n, Bench.mem(0)), Bench.KEY);
            int both = Bench.act(x, op, n, one, Bench.num(-1), n, one, n, n, Bench.loc(61));
            b.due("OUTSIDE before LOCAL", both, Bench.OUTSIDE);
        }
    }
}
