/** Promises 8 to 13: set, round, journey, frost, back, read. */
final class ToldTest {
    public static void main(String[] args) {
        set();
        round();
        journey();
        frost();
        back();
        read();
        readStops();
        Due.end();
    }

    private static void set() {
        ShornSins x = Due.told("f04", "");
        Due.is("set(-1, 0)", x.set(-1, 0), ShornSins.BAD);
        Due.is("set(2, 0)", x.set(2, 0), ShornSins.BAD);
        Due.is("set(0, -1)", x.set(0, -1), ShornSins.BAD);
        Due.is("set(0, 10)", x.set(0, 10), ShornSins.BAD);
        Due.is("set(1, -1)", x.set(1, -1), ShornSins.BAD);
        Due.is("set(1, 31)", x.set(1, 31), ShornSins.BAD);
        Due.is("set(0, 9)", x.set(0, 9), 3);
        Due.is("set(0, 0)", x.set(0, 0), 9);
        Due.is("set(1, 30)", x.set(1, 30), 10);
        Due.is("set(1, 0)", x.set(1, 0), 30);
        Due.is("no grace: wool", x.wool(0, 0, 0), 4);
        x.set(0, 4);
        Due.is("grace 4: wool", x.wool(0, 0, 0), 3);
    }

    private static void round() {
        ShornSins x = Due.told("f05", "");
        Due.is("round(-1, 0, 1)", x.round(-1, 0, 1), ShornSins.BAD);
        Due.is("round(24, 0, 1)", x.round(24, 0, 1), ShornSins.BAD);
        Due.is("round(0, -1, 1)", x.round(0, -1, 1), ShornSins.BAD);
        Due.is("round(0, 4, 1)", x.round(0, 4, 1), ShornSins.BAD);
        Due.is("round(0, 0, 0)", x.round(0, 0, 0), ShornSins.BAD);
        Due.is("round(0, 0, 5)", x.round(0, 0, 5), ShornSins.BAD);
        Due.is("count(4) behind refusals", x.count(4), 0);
        for (int i = 1; i <= 8; i++) {
            Due.is("round(23, 3, 4)", x.round(23, 3, 4), i);
        }
        Due.is("a ninth round", x.round(0, 0, 1), ShornSins.FULL);
        Due.is("a ninth round, wrong", x.round(24, 0, 1), ShornSins.BAD);
        Due.is("count(4)", x.count(4), 8);
        Due.is("nobody shorn by the ninth", x.first(0), ShornSins.NONE);
    }

    private static void journey() {
        ShornSins x = Due.told("f05", "");
        Due.is("journey(-1, 0, 0)", x.journey(-1, 0, 0), ShornSins.BAD);
        Due.is("journey(24, 0, 0)", x.journey(24, 0, 0), ShornSins.BAD);
        Due.is("journey(0, -1, 0)", x.journey(0, -1, 0), ShornSins.BAD);
        Due.is("journey(0, 8, 0)", x.journey(0, 8, 0), ShornSins.BAD);
        Due.is("journey(0, 0, -1)", x.journey(0, 0, -1), ShornSins.BAD);
        Due.is("journey(0, 0, 4)", x.journey(0, 0, 4), ShornSins.BAD);
        for (int i = 1; i <= 8; i++) {
            Due.is("journey(0, 7, 3) of nobody", x.journey(0, 7, 3), i);
        }
        Due.is("a ninth journey", x.journey(0, 0, 1), ShornSins.FULL);
        Due.is("count(5)", x.count(5), 8);
        Due.is("nothing caught of nobody", x.thorn(23), 0);
    }

    private static void frost() {
        ShornSins x = new ShornSins();
        Due.is("frost(-1)", x.frost(-1), ShornSins.BAD);
        Due.is("frost(24)", x.frost(24), ShornSins.BAD);
        for (int i = 1; i <= 6; i++) {
            Due.is("frost(23)", x.frost(23), i);
        }
        Due.is("a seventh frost", x.frost(0), ShornSins.FULL);
        Due.is("a seventh frost, wrong", x.frost(24), ShornSins.BAD);
        Due.is("count(5)", x.count(5), 6);
    }

    private static void back() {
        ShornSins x = Due.told("f09;f19", "");
        Due.is("back(-1)", x.back(-1), ShornSins.BAD);
        Due.is("back(3)", x.back(3), ShornSins.BAD);
        for (int what = 0; what < 3; what++) {
            Due.is("back(" + what + ") of none", x.back(what), ShornSins.NOT);
        }
        x.set(1, 5);
        x.round(1, 0, 1);
        x.round(2, 1, 1);
        x.journey(0, 0, 2);
        x.frost(1);
        x.frost(2);
        Due.is("dies(0) away", x.dies(0), ShornSins.NONE);
        Due.is("dies(1)", x.dies(1), 2);
        Due.is("back(1)", x.back(1), 0);
        Due.is("dies(0) at home", x.dies(0), 1);
        Due.is("back(2)", x.back(2), 1);
        Due.is("dies(1) without frost", x.dies(1), ShornSins.NONE);
        Due.is("shorn(1) still", x.wool(2, 1, 2), 1);
        Due.is("back(0)", x.back(0), 1);
        Due.is("shorn(1) no more", x.wool(2, 1, 2), 0);
        Due.is("back(0) again", x.back(0), 0);
        Due.is("back(0) of none", x.back(0), ShornSins.NOT);
        Due.is("count(4)", x.count(4), 0);
        Due.is("count(5)", x.count(5), 1);
    }

    private static void fill(ShornSins x, int s, int form, int... items) {
        Due.is("sheet", x.sheet(s, form, items.length), items.length);
        for (int i = 0; i < items.length; i++) {
            Due.is("put", x.put(s, form, i, items[i]), 1);
        }
    }

    private static void read() {
        ShornSins x = Due.told("f05;c17", "");
        Due.is("read(-1)", x.read(-1), ShornSins.BAD);
        Due.is("read(4)", x.read(4), ShornSins.BAD);
        Due.is("read(2) of a lost sheet", x.read(2), -11);
        Due.is("count(8)", x.count(8), 1);
        fill(x, 0, 0, 3, 0, 1, 4, 1, 2, 9, 9);
        Due.is("read(0) with two items over", x.read(0), 2);
        Due.is("count(4)", x.count(4), 2);
        Due.is("shorn(0)", x.wool(3, 0, 2), 1);
        Due.is("shorn(1)", x.wool(4, 1, 2), 1);
        x.journey(4, 0, 3);
        x.type(1, 'f');
        x.type(1, '0');
        x.type(1, 'm');
        fill(x, 1, 1, 5, 3, 4);
        Due.is("read(1) behind others", x.read(1), 1);
        Due.is("count(4) behind others", x.count(4), 3);
        Due.is("cloth(5, 3, 0)", x.cloth(5, 3, 0), 5);
        fill(x, 2, 2);
        Due.is("read(2) of no items", x.read(2), 0);
        fill(x, 3, 2, 1, 1);
        Due.is("read(3) of two items", x.read(3), 0);
    }

    private static void readStops() {
        ShornSins x = new ShornSins();
        fill(x, 0, 2, 0, 0, 1, 24, 0, 1, 2, 0, 1);
        Due.is("read(0) up to a wrong one", x.read(0), 1);
        Due.is("count(4) up to a wrong one", x.count(4), 1);
        int[] many = new int[60];
        for (int i = 2; i < 60; i += 3) {
            many[i] = 1;
        }
        fill(x, 1, 0, many);
        Due.is("read(1) up to full", x.read(1), 7);
        Due.is("count(4) full", x.count(4), 8);
        Due.is("read(1) when full", x.read(1), 0);
        Due.is("no finding", x.count(8), 0);
    }
}
