/** Promises 25 to 31: seen, forget, never, was, ask, virtue, years. */
final class SeenTest {
    public static void main(String[] args) {
        seen();
        neverAndWas();
        who();
        ask();
        virtue();
        virtueRefusals();
        years();
        Due.end();
    }

    private static void seen() {
        ShornSins x = new ShornSins();
        Due.is("seen(-1, 0, 0)", x.seen(-1, 0, 0), ShornSins.BAD);
        Due.is("seen(24, 0, 0)", x.seen(24, 0, 0), ShornSins.BAD);
        Due.is("seen(0, -1, 0)", x.seen(0, -1, 0), ShornSins.BAD);
        Due.is("seen(0, 8, 0)", x.seen(0, 8, 0), ShornSins.BAD);
        Due.is("seen(0, 0, -1)", x.seen(0, 0, -1), ShornSins.BAD);
        Due.is("seen(0, 0, 100)", x.seen(0, 0, 100), ShornSins.BAD);
        Due.is("forget() of none", x.forget(), 0);
        for (int i = 1; i <= 8; i++) {
            Due.is("seen(23, 7, 99)", x.seen(23, 7, 99), i);
        }
        Due.is("a ninth", x.seen(0, 0, 0), ShornSins.FULL);
        Due.is("count(7)", x.count(7), 8);
        Due.is("forget()", x.forget(), 8);
        Due.is("count(7) behind", x.count(7), 0);
    }

    private static void neverAndWas() {
        ShornSins x = Due.told("h00;c00", "c0e;c0l;d1t;h0m");
        x.set(0, 0);
        Due.is("never(): nothing seen", x.never(), 15);
        x.seen(2, 0, 4);
        Due.is("never(): as it was", x.never(), 12);
        Due.is("was(0, 0)", x.was(0, 0), 2);
        Due.is("was(1, 0)", x.was(1, 0), 1);
        Due.is("was(2, 0)", x.was(2, 0), 15);
        x.seen(3, 1, 0);
        Due.is("never(): the theft", x.never(), 4);
        Due.is("was(2, 0) none", x.was(2, 0), 0);
        Due.is("forget()", x.forget(), 2);
        x.seen(7, 0, 10);
        Due.is("never(): alone", x.never(), 1);
        Due.is("was(3, 0)", x.was(3, 0), 0);
        x.seen(7, 2, 0);
        Due.is("never(): of one that is not there", x.never(), 0);
        Due.is("was(0, 1): of one that is not there", x.was(0, 1), 0);
        Due.is("was(-1, 0)", x.was(-1, 0), ShornSins.BAD);
        Due.is("was(4, 0)", x.was(4, 0), ShornSins.BAD);
        Due.is("was(0, -1)", x.was(0, -1), ShornSins.BAD);
        Due.is("was(0, 2)", x.was(0, 2), ShornSins.BAD);
        Due.is("deed(0, 2) stays", x.deed(0, 2), 1);
    }

    /** The deed of one that is not there may have been somebody's. */
    private static void who() {
        ShornSins x = Due.told("h09;h09;f09", "b7l;b0e");
        Due.is("was(0, 1): nothing seen", x.was(0, 1), 7);
        x.seen(1, 1, 9);
        Due.is("was(0, 1): not the second", x.was(0, 1), 5);
        x.seen(1, 0, 13);
        Due.is("was(0, 1): the first", x.was(0, 1), 1);
        x.forget();
        x.seen(1, 0, 9);
        Due.is("was(1, 1)", x.was(1, 1), 6);
        x.seen(23, 2, 11);
        Due.is("was(1, 1): the third", x.was(1, 1), 4);
    }

    private static void ask() {
        ShornSins x = Due.told("h09;h09", "b0e;d0l;f0m;c1l");
        Due.is("ask(0)", x.ask(0), 5);
        Due.is("ask(1)", x.ask(1), 2);
        x.seen(3, 0, 12);
        Due.is("never()", x.never(), 2);
        Due.is("ask(0) of one", x.ask(0), 0);
        x.seen(3, 0, 99);
        Due.is("ask(0) of none", x.ask(0), 0);
        Due.is("ask(-1)", x.ask(-1), ShornSins.BAD);
        Due.is("ask(2)", x.ask(2), ShornSins.BAD);
    }

    private static void virtueIs(ShornSins x, int c, int last, int p, long above, long below) {
        Due.is("virtue(" + c + ", " + last + ", " + p + ", 0)", x.virtue(c, last, p, 0), above);
        Due.is("virtue(" + c + ", " + last + ", " + p + ", 1)", x.virtue(c, last, p, 1), below);
    }

    private static void virtue() {
        ShornSins x = Due.told("f05;h19;h29", "b0m;c0m");
        x.set(1, 5);
        x.round(0, 0, 1);
        x.frost(0);
        x.frost(20);
        virtueIs(x, 4, 0, 0, 3, 4);
        virtueIs(x, 5, 9, 0, 11, 16);
        virtueIs(x, 0, 9, 0, 1, 1);
        virtueIs(x, 16, 9, 0, 0, 1);
        virtueIs(x, 4, 0, 1, 1, 1);
        x.round(1, 0, 2);
        x.round(20, 1, 1);
        virtueIs(x, 4, 0, 0, 3, 4);
        virtueIs(x, 4, 1, 0, 9, 16);
        virtueIs(x, 5, 5, 0, 121, 256);
        virtueIs(x, 16, 9, 1, 1, 1);
        Due.is("told frosts still tell", x.dies(1), 20);
        virtueIs(x, 5, 9, 0, 11 * 11, 16 * 16);
        x.round(2, 0, 1);
        virtueIs(x, 5, 9, 0, 11 * 11 * 11, 16 * 16 * 16);
        x.set(1, 6);
        virtueIs(x, 5, 9, 0, 1, 1);
        x.set(1, 5);
        virtueIs(x, 5, 9, 0, 11 * 11 * 11, 16 * 16 * 16);
        x.wipe(1);
        virtueIs(x, 5, 9, 0, 11, 16);
        x.back(0);
        x.back(0);
        x.journey(0, 1, 0);
        virtueIs(x, 5, 9, 1, 11, 16);
    }

    private static void virtueRefusals() {
        ShornSins x = Due.told("f05", "");
        long bad = Long.MIN_VALUE + 2;
        Due.is("virtue(-1, 0, 0, 0)", x.virtue(-1, 0, 0, 0), bad);
        Due.is("virtue(17, 0, 0, 0)", x.virtue(17, 0, 0, 0), bad);
        Due.is("virtue(0, -1, 0, 0)", x.virtue(0, -1, 0, 0), bad);
        Due.is("virtue(0, 10, 0, 0)", x.virtue(0, 10, 0, 0), bad);
        Due.is("virtue(0, 0, -1, 0)", x.virtue(0, 0, -1, 0), bad);
        Due.is("virtue(0, 0, 1, 0)", x.virtue(0, 0, 1, 0), bad);
        Due.is("virtue(0, 0, 0, -1)", x.virtue(0, 0, 0, -1), bad);
        Due.is("virtue(0, 0, 0, 2)", x.virtue(0, 0, 0, 2), bad);
    }

    /**
     * Of the seed 1 come the numbers 1103527590, 2524885223, 662824084: upper bits 16838, 38526, 10113;
     * of 24, 2 and 4 that is month 14, person 0, kind 1.
     */
    private static void years() {
        ShornSins x = Due.told("h09;c09", "a0m;b1m");
        Due.is("years(1, 1, 1)", x.years(1, 1, 1), 18 + 18 + 3);
        x.round(14, 0, 1);
        Due.is("years(1, 1, 0)", x.years(1, 1, 0), 24);
        Due.is("years(1, 1, 1) behind a round", x.years(1, 1, 1), 18 + 9);
        Due.is("what is told stays", x.count(1), 2);
        Due.is("wool stays", x.wool(0, 0, 0), 18);
        Due.is("years(1, 0, 0)", x.years(1, 0, 0), ShornSins.BAD);
        Due.is("years(1, 11, 0)", x.years(1, 11, 0), ShornSins.BAD);
        Due.is("years(1, 1, -1)", x.years(1, 1, -1), ShornSins.BAD);
        Due.is("years(1, 1, 2)", x.years(1, 1, 2), ShornSins.BAD);
        ShornSins y = Due.told("", "a0m");
        Due.is("years(1, 10, 0) of nobody", y.years(1, 10, 0), 0);
        Due.is("years(1, 10, 1) of nobody", y.years(1, 10, 1), 0);
    }
}
