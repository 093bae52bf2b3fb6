/** Promises 32 to 39: sheet, lose, put, get, copy, write, count, digest. */
final class SheetsTest {
    private static final int LEAST = Integer.MIN_VALUE;

    public static void main(String[] args) {
        sheet();
        lose();
        putAndGet();
        copy();
        copyWithin();
        write();
        count();
        digest();
        Due.end();
    }

    private static void found(ShornSins x, String call, int got, int number) {
        Due.is(call, got, -10 - number);
        Due.is("count(8) behind " + call, x.count(8), number);
    }

    private static void sheet() {
        ShornSins x = new ShornSins();
        Due.is("sheet(-1, 0, 1)", x.sheet(-1, 0, 1), ShornSins.BAD);
        Due.is("sheet(4, 0, 1)", x.sheet(4, 0, 1), ShornSins.BAD);
        Due.is("sheet(0, -1, 1)", x.sheet(0, -1, 1), ShornSins.BAD);
        Due.is("sheet(0, 3, 1)", x.sheet(0, 3, 1), ShornSins.BAD);
        Due.is("sheet(0, 0, 61)", x.sheet(0, 0, 61), ShornSins.BAD);
        Due.is("sheet(4, 0, -1)", x.sheet(4, 0, -1), ShornSins.BAD);
        Due.is("count(8) behind BAD", x.count(8), 0);
        found(x, "sheet(0, 0, -1)", x.sheet(0, 0, -1), 5);
        Due.is("sheet(0, 1, 60)", x.sheet(0, 1, 60), 60);
        Due.is("sheet(3, 2, 0)", x.sheet(3, 2, 0), 0);
        Due.is("put(0, 1, 59, 7)", x.put(0, 1, 59, 7), 1);
        Due.is("put(0, 1, 0, 7)", x.put(0, 1, 0, 7), 1);
        found(x, "sheet(0, 1, LEAST)", x.sheet(0, 1, LEAST), 5);
        Due.is("the old row stays", x.get(0, 1, 59), 7);
        Due.is("sheet(0, 1, 60) anew", x.sheet(0, 1, 60), 60);
        Due.is("a new row", x.get(0, 1, 59), 0);
        Due.is("a new row from 0 on", x.get(0, 1, 0), 0);
    }

    private static void lose() {
        ShornSins x = new ShornSins();
        Due.is("lose(-1)", x.lose(-1), ShornSins.BAD);
        Due.is("lose(4)", x.lose(4), ShornSins.BAD);
        found(x, "lose(1)", x.lose(1), 1);
        x.sheet(1, 2, 9);
        Due.is("lose(1) of nine", x.lose(1), 9);
        found(x, "lose(1) again", x.lose(1), 1);
    }

    private static void putAndGet() {
        ShornSins x = new ShornSins();
        x.sheet(0, 0, 2);
        x.sheet(1, 1, 2);
        x.sheet(2, 2, 2);
        int[] put = {127, 128, -129, 255, 256, 40000, 70000, Integer.MAX_VALUE, LEAST + 1};
        for (int v : put) {
            Due.is("put byte", x.put(0, 0, 1, v), 1);
            Due.is("put short", x.put(1, 1, 1, v), 1);
            Due.is("put int", x.put(2, 2, 1, v), 1);
            Due.is("byte of " + v, x.get(0, 0, 1), (byte) v);
            Due.is("short of " + v, x.get(1, 1, 1), (short) v);
            Due.is("int of " + v, x.get(2, 2, 1), v);
        }
        Due.is("item 0 stays", x.get(2, 2, 0), 0);
        Due.is("put(-1, 0, 0, 0)", x.put(-1, 0, 0, 0), ShornSins.BAD);
        Due.is("put(4, 0, 0, 0)", x.put(4, 0, 0, 0), ShornSins.BAD);
        Due.is("put(0, -1, 0, 0)", x.put(0, -1, 0, 0), ShornSins.BAD);
        Due.is("put(0, 3, 0, 0)", x.put(0, 3, 0, 0), ShornSins.BAD);
        Due.is("get(-1, 0, 0)", x.get(-1, 0, 0), LEAST);
        Due.is("get(0, 3, 0)", x.get(0, 3, 0), LEAST);
        Due.is("count(8) behind BAD", x.count(8), 0);
        found(x, "put of a lost one", x.put(3, 0, 9, 0), 1);
        found(x, "put of another form", x.put(0, 1, 9, 0), 3);
        found(x, "put(0, 0, 2, 0)", x.put(0, 0, 2, 0), 2);
        found(x, "put(0, 0, -1, 0)", x.put(0, 0, -1, 0), 2);
        Due.is("get of a lost one", x.get(3, 2, 0), LEAST);
        Due.is("count(8)", x.count(8), 1);
        Due.is("get of another form", x.get(2, 0, 9), LEAST);
        Due.is("count(8)", x.count(8), 3);
        Due.is("get(2, 2, 2)", x.get(2, 2, 2), LEAST);
        Due.is("count(8)", x.count(8), 2);
    }

    private static void copy() {
        ShornSins x = new ShornSins();
        x.sheet(0, 2, 5);
        x.sheet(1, 2, 3);
        x.sheet(2, 1, 5);
        for (int i = 0; i < 5; i++) {
            x.put(0, 2, i, 10 + i);
        }
        Due.is("copy(0, 2, 1, 0, 3)", x.copy(0, 2, 1, 0, 3), 1);
        for (int i = 0; i < 3; i++) {
            Due.is("copied", x.get(1, 2, i), 12 + i);
        }
        Due.is("copy of nothing at the end", x.copy(0, 5, 1, 3, 0), 1);
        Due.is("copy(-1, ..)", x.copy(-1, 0, 1, 0, 1), ShornSins.BAD);
        Due.is("copy(.. 4 ..)", x.copy(0, 0, 4, 0, 1), ShornSins.BAD);
        Due.is("copy(4 .. 3 ..)", x.copy(4, 0, 3, 0, 1), ShornSins.BAD);
        found(x, "copy from a lost one", x.copy(3, -1, 2, 0, 9), 1);
        found(x, "copy to a lost one", x.copy(0, -1, 3, 0, 9), 1);
        found(x, "copy to another form", x.copy(0, -1, 2, 0, 9), 4);
        int[][] wrong = {{-1, 0, 1}, {0, -1, 1}, {0, 0, -1}, {3, 0, 3}, {0, 1, 3}, {6, 0, 0}, {0, 4, 0},
            {1, 1, Integer.MAX_VALUE}, {Integer.MAX_VALUE, 0, Integer.MAX_VALUE}, {0, 0, LEAST}, {LEAST, LEAST, LEAST}};
        for (int[] w : wrong) {
            x.lose(3);
            found(x, "copy(0, " + w[0] + ", 1, " + w[1] + ", " + w[2] + ")", x.copy(0, w[0], 1, w[1], w[2]), 2);
        }
        Due.is("nothing changed", x.get(1, 2, 0), 12);
    }

    private static void copyWithin() {
        ShornSins x = new ShornSins();
        x.sheet(0, 0, 5);
        for (int i = 0; i < 5; i++) {
            x.put(0, 0, i, i);
        }
        Due.is("copy upwards", x.copy(0, 0, 0, 1, 4), 1);
        int[] due = {0, 0, 1, 2, 3};
        for (int i = 0; i < 5; i++) {
            Due.is("as they were", x.get(0, 0, i), due[i]);
        }
        Due.is("copy downwards", x.copy(0, 2, 0, 0, 3), 1);
        int[] then = {1, 2, 3, 2, 3};
        for (int i = 0; i < 5; i++) {
            Due.is("as they were then", x.get(0, 0, i), then[i]);
        }
    }

    private static void write() {
        ShornSins x = Due.told("h09;c09", "b0l;c1m;c1m;c1m;c1m;c1m;c1m;c1m");
        x.sheet(0, 2, 30);
        x.put(0, 2, 24, 5);
        Due.is("write(0, 0)", x.write(0, 0), 24);
        Due.is("item 0", x.get(0, 2, 0), 9);
        Due.is("item 1", x.get(0, 2, 1), 10);
        Due.is("item 23", x.get(0, 2, 23), 10);
        Due.is("item 24 stays", x.get(0, 2, 24), 5);
        x.sheet(1, 0, 3);
        Due.is("write(1, 1)", x.write(1, 1), 3);
        Due.is("the lowest bits", x.get(1, 0, 2), (byte) (9 + 7 * 18));
        x.sheet(2, 1, 0);
        Due.is("write(0, 2) of no items", x.write(0, 2), 0);
        Due.is("write(-1, 0)", x.write(-1, 0), ShornSins.BAD);
        Due.is("write(2, 0)", x.write(2, 0), ShornSins.BAD);
        Due.is("write(0, -1)", x.write(0, -1), ShornSins.BAD);
        Due.is("write(0, 4)", x.write(0, 4), ShornSins.BAD);
        Due.is("write(2, 3)", x.write(2, 3), ShornSins.BAD);
        found(x, "write(0, 3)", x.write(0, 3), 1);
    }

    private static void count() {
        ShornSins x = Due.told("h09;c09;f00", "b0l;c1m");
        x.round(0, 0, 1);
        x.round(2, 0, 4);
        x.round(2, 1, 4);
        x.journey(1, 0, 1);
        x.frost(2);
        x.frost(3);
        x.seen(0, 0, 0);
        x.lose(3);
        int[] due = {3, 2, 11, 7, 3, 3, 2, 1, 1};
        for (int what = 0; what <= 8; what++) {
            Due.is("count(" + what + ")", x.count(what), due[what]);
        }
        Due.is("count(-1)", x.count(-1), ShornSins.BAD);
        Due.is("count(9)", x.count(9), ShornSins.BAD);
    }

    /** An empty object's, written out: what its calls answer one by one, in the order told. */
    private static void digest() {
        long h = 17;
        int[] empty = {0, 0, 0, 0, 0, 0, 0, 0, -1, -1,
            0, 0, 0, 0, 0, 0, 0, 0, 0, 0, 0, 0, 0, 0, 0, 0,
            0, -1, 0, -1, 0, -1, 0, 0, -1, -1, 0, 0, 0, 0, -1, 0, 0, 0};
        for (int v : empty) {
            h = 31 * h + v;
        }
        ShornSins x = new ShornSins();
        Due.is("digest() of an empty object", x.digest(), h);
        x.lose(0);
        Due.is("digest() does not tell findings", x.digest(), h);
        x.sheet(0, 0, 9);
        Due.is("digest() does not tell sheets", x.digest(), h);
        x.frost(3);
        Due.is("digest() tells frosts", x.digest() == h ? 1 : 0, 0);
    }
}
