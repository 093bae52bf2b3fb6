/** Promises 1 to 7: a new object, type, wipe, undo, fault, person, deed. */
final class TextsTest {
    public static void main(String[] args) {
        newObject();
        type();
        wipeAndUndo();
        faultOfPeople();
        faultOfDeeds();
        person();
        deed();
        Due.end();
    }

    private static void newObject() {
        ShornSins x = new ShornSins();
        for (int what = 0; what <= 8; what++) {
            Due.is("new: count(" + what + ")", x.count(what), 0);
        }
        for (int s = 0; s < 4; s++) {
            Due.is("new: lose(" + s + ")", x.lose(s), -11);
        }
        Due.is("new: set(0, 3)", x.set(0, 3), 3);
        Due.is("new: set(1, 10)", x.set(1, 10), 10);
    }

    private static void type() {
        ShornSins x = new ShornSins();
        Due.is("type(-1, 97)", x.type(-1, 97), ShornSins.BAD);
        Due.is("type(2, 97)", x.type(2, 97), ShornSins.BAD);
        Due.is("type(0, -1)", x.type(0, -1), ShornSins.BAD);
        Due.is("type(0, 256)", x.type(0, 256), ShornSins.BAD);
        Due.is("count(2) behind refusals", x.count(2), 0);
        for (int i = 1; i <= 31; i++) {
            Due.is("type(0, 255)", x.type(0, 255), i);
        }
        Due.is("type(0, 0) of a full text", x.type(0, 0), ShornSins.FULL);
        Due.is("type(0, 256) of a full text", x.type(0, 256), ShornSins.BAD);
        for (int i = 1; i <= 39; i++) {
            Due.is("type(1, 0)", x.type(1, 0), i);
        }
        Due.is("type(1, 0) of a full text", x.type(1, 0), ShornSins.FULL);
        Due.is("count(2) of a full text", x.count(2), 31);
        Due.is("count(3) of a full text", x.count(3), 39);
    }

    private static void wipeAndUndo() {
        ShornSins x = Due.told("f05", "a0l");
        Due.is("wipe(-1)", x.wipe(-1), ShornSins.BAD);
        Due.is("wipe(2)", x.wipe(2), ShornSins.BAD);
        Due.is("undo(-1)", x.undo(-1), ShornSins.BAD);
        Due.is("undo(2)", x.undo(2), ShornSins.BAD);
        Due.is("undo(0)", x.undo(0), 2);
        Due.is("people behind undo", x.count(0), 0);
        Due.is("type(0, '7')", x.type(0, '7'), 3);
        Due.is("person(0, 2) behind undo", x.person(0, 2), 7);
        Due.is("wipe(1)", x.wipe(1), 3);
        Due.is("wipe(1) again", x.wipe(1), 0);
        Due.is("undo(1) of an empty text", x.undo(1), ShornSins.NOT);
        Due.is("the other text stays", x.count(2), 3);
        Due.is("deeds behind wipe", x.count(1), 0);
    }

    private static void faultIs(int text, String bytes, int place) {
        ShornSins x = new ShornSins();
        Due.type(x, text, bytes);
        Due.is("fault(" + text + ") of " + bytes, x.fault(text), place);
        int things = place == ShornSins.NONE ? (bytes.length() + 1) / 4 : 0;
        Due.is("count(" + text + ") of " + bytes, x.count(text), things);
    }

    private static void faultOfPeople() {
        faultIs(0, "", ShornSins.NONE);
        faultIs(0, "f00", ShornSins.NONE);
        faultIs(0, "c39;h00;f15", ShornSins.NONE);
        faultIs(0, "c39;h00;f15;c00;c01;c02;c03;c04", ShornSins.NONE);
        faultIs(0, "F00", 0);
        faultIs(0, ";", 0);
        faultIs(0, "f", 1);
        faultIs(0, "f4", 1);
        faultIs(0, "f/0", 1);
        faultIs(0, "f0", 2);
        faultIs(0, "f0:", 2);
        faultIs(0, "f0x", 2);
        faultIs(0, "f00:f00", 3);
        faultIs(0, "f00;", 4);
        faultIs(0, "f00;;", 4);
        faultIs(0, "f00;c41;xx", 5);
        faultIs(0, "c39;h00;f15;c00;c01;c02;c03;c0", 30);
        ShornSins x = new ShornSins();
        Due.is("fault(-1)", x.fault(-1), ShornSins.BAD);
        Due.is("fault(2)", x.fault(2), ShornSins.BAD);
    }

    private static void faultOfDeeds() {
        faultIs(1, "", ShornSins.NONE);
        faultIs(1, "a0l;x7m;c1e;d2t", ShornSins.NONE);
        faultIs(1, "a0l;x7m;c1e;d2t;a0l;a0l;a0l;a0l;a0l;a0l", ShornSins.NONE);
        faultIs(1, "y0l", 0);
        faultIs(1, "`0l", 0);
        faultIs(1, "A0l", 0);
        faultIs(1, "a8l", 1);
        faultIs(1, "a0f", 2);
        faultIs(1, "a0l,a0l", 3);
        faultIs(1, "a0l;", 4);
        faultIs(1, "a0l;b", 5);
        faultIs(1, "a0l;b7", 6);
    }

    private static void person() {
        ShornSins x = Due.told("f05;c12;h39", "");
        int[][] due = {{0, 0, 5}, {1, 1, 2}, {2, 3, 9}};
        for (int p = 0; p < 3; p++) {
            for (int what = 0; what < 3; what++) {
                Due.is("person(" + p + ", " + what + ")", x.person(p, what), due[p][what]);
            }
        }
        Due.is("person(3, 0)", x.person(3, 0), ShornSins.BAD);
        Due.is("person(-1, 0)", x.person(-1, 0), ShornSins.BAD);
        Due.is("person(0, 3)", x.person(0, 3), ShornSins.BAD);
        Due.is("person(0, -1)", x.person(0, -1), ShornSins.BAD);
        x.type(0, ';');
        Due.is("person(0, 0) with a fault", x.person(0, 0), ShornSins.BAD);
    }

    private static void deed() {
        ShornSins x = Due.told("f05", "a0l;x7e;c1t;d2m");
        int[][] due = {{0, 0, 0}, {23, 7, 1}, {2, 1, 2}, {3, 2, 3}};
        for (int d = 0; d < 4; d++) {
            for (int what = 0; what < 3; what++) {
                Due.is("deed(" + d + ", " + what + ")", x.deed(d, what), due[d][what]);
            }
        }
        Due.is("deed(4, 0)", x.deed(4, 0), ShornSins.BAD);
        Due.is("deed(-1, 0)", x.deed(-1, 0), ShornSins.BAD);
        Due.is("deed(0, 3)", x.deed(0, 3), ShornSins.BAD);
        Due.is("deed(0, -1)", x.deed(0, -1), ShornSins.BAD);
        x.undo(1);
        Due.is("deed(0, 0) with a fault", x.deed(0, 0), ShornSins.BAD);
    }
}
