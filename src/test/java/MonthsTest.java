/** Promises 14 to 20: wool, dies, cloth, thorn, tax, heaviest, first. */
final class MonthsTest {
    public static void main(String[] args) {
        growth();
        moulting();
        journeys();
        rounds();
        roundsInOrder();
        frosts();
        theDead();
        taxes();
        heaviest();
        first();
        refusals();
        Due.end();
    }

    private static void growth() {
        int[][] due = {{1, 2, 3, 5}, {2, 6, 8, 18}, {1, 3, 4, 9}};
        for (int kind = 0; kind < 3; kind++) {
            for (int what = 0; what < 4; what++) {
                ShornSins x = Due.told("fch".charAt(kind) + "09", "b0" + "letm".charAt(what));
                Due.is("before " + kind + what, x.wool(0, 0, 0), 9);
                Due.is("growth " + kind + what, x.wool(1, 0, 0), 9 + due[kind][what]);
                Due.is("behind " + kind + what, x.wool(23, 0, 0), 9 + due[kind][what]);
            }
        }
        ShornSins x = Due.told("h00;h01", "a0l;a0l;x1m;a2m;a7m");
        Due.is("two lies", x.wool(0, 0, 0), 2);
        Due.is("a murder in month 23", x.wool(23, 1, 0), 9);
        Due.is("deeds of nobody", x.tax(0), 0);
    }

    private static void moulting() {
        ShornSins x = Due.told("h03;h04;h00;h02", "b3l;c3l");
        int[] first = {2, 1, 0, 0};
        int[] last = {1, 2, 3, 2};
        for (int month = 0; month < 4; month++) {
            Due.is("moults", x.wool(month, 0, 0), first[month]);
            Due.is("too heavy to moult", x.wool(month, 1, 0), 4);
            Due.is("nothing to moult", x.wool(month, 2, 0), 0);
            Due.is("did something", x.wool(month, 3, 0), last[month]);
        }
    }

    private static void journeys() {
        ShornSins x = Due.told("f05;h01;h09", "a1l");
        x.set(0, 2);
        x.journey(0, 1, 0);
        x.journey(1, 0, 3);
        x.journey(1, 0, 3);
        x.journey(1, 0, 1);
        x.journey(0, 1, 2);
        x.journey(4, 2, 0);
        x.journey(0, 7, 1);
        Due.is("at home still", x.wool(0, 0, 1), 0);
        Due.is("two journeys", x.wool(1, 0, 0), 1);
        Due.is("where", x.wool(1, 0, 1), 1);
        Due.is("moults the month after", x.wool(2, 0, 0), 0);
        Due.is("what there is", x.wool(0, 1, 0), 0);
        Due.is("where that is", x.wool(0, 1, 1), 2);
        Due.is("no journey", x.wool(4, 2, 0), 9);
        Due.is("thorn(0)", x.thorn(0), 2);
        Due.is("thorn(1)", x.thorn(1), 6);
        Due.is("thorn(23)", x.thorn(23), 6);
        ShornSins y = Due.told("h01", "");
        y.journey(0, 0, 1);
        Due.is("moults ahead of the thorn", y.thorn(0), 0);
        ShornSins z = Due.told("c05", "");
        z.journey(3, 0, 2);
        z.round(3, 2, 1);
        Due.is("shorn where it came", z.cloth(3, 2, 0), 3);
    }

    private static void rounds() {
        ShornSins x = Due.told("h05;f07;c07;f19;h04", "");
        x.round(2, 0, 2);
        x.round(5, 1, 4);
        Due.is("the most wool, the least of like ones", x.wool(2, 1, 2), 1);
        Due.is("the next", x.wool(2, 2, 2), 1);
        Due.is("not the third", x.wool(2, 0, 2), 0);
        Due.is("its wool", x.wool(2, 0, 0), 5);
        Due.is("no wool left", x.wool(2, 1, 0), 0);
        Due.is("cloth(1, 0, 0)", x.cloth(1, 0, 0), 0);
        Due.is("cloth(2, 0, 0)", x.cloth(2, 0, 0), 14);
        Due.is("cloth(2, 0, 1)", x.cloth(2, 0, 1), 28);
        Due.is("cloth(2, 1, 0)", x.cloth(2, 1, 0), 0);
        Due.is("cloth(5, 1, 1)", x.cloth(5, 1, 1), 27);
        Due.is("as many as there are", x.cloth(23, 1, 0), 9);
        x.round(9, 0, 4);
        Due.is("those with wool", x.cloth(9, 0, 1), 28 + 18);
        Due.is("shorn once", x.wool(23, 1, 2), 1);
        ShornSins y = Due.told("c00", "a0l;c0l");
        y.round(0, 0, 1);
        y.round(1, 0, 1);
        y.round(2, 0, 1);
        Due.is("none without wool", y.wool(1, 0, 2), 1);
        Due.is("how often", y.wool(2, 0, 2), 2);
    }

    private static void roundsInOrder() {
        ShornSins x = Due.told("h05;h06;h07", "");
        x.round(4, 0, 1);
        x.round(3, 0, 1);
        x.round(4, 0, 1);
        Due.is("the first month", x.wool(3, 2, 2), 1);
        Due.is("both of month 4", x.wool(4, 0, 2) + x.wool(4, 1, 2), 2);
        Due.is("cloth(4, 0, 1)", x.cloth(4, 0, 1), 36);
    }

    private static void frosts() {
        ShornSins x = Due.told("h09;h18;h27", "a0l;a1l;a2m");
        x.round(3, 0, 1);
        x.round(3, 1, 1);
        x.round(4, 2, 1);
        x.frost(3);
        x.frost(3);
        Due.is("as much as cold", x.dies(0), 3);
        Due.is("less than cold", x.dies(1), ShornSins.NONE);
        Due.is("no frost", x.dies(2), ShornSins.NONE);
        Due.is("count(6)", x.count(6), 2);
        Due.is("its cloth", x.cloth(3, 0, 0), 10);
        x.set(1, 11);
        Due.is("a greater cold", x.dies(0), ShornSins.NONE);
        x.set(1, 0);
        Due.is("cold 0", x.dies(1), 3);
        Due.is("in the frost, not shorn", x.dies(2), ShornSins.NONE);
    }

    private static void theDead() {
        ShornSins x = Due.told("c09;c09", "a0l;f0m;f1m");
        x.round(4, 0, 1);
        x.round(6, 0, 4);
        x.journey(5, 0, 3);
        x.frost(4);
        Due.is("dies(0)", x.dies(0), 4);
        Due.is("does nothing more", x.wool(23, 0, 0), 0);
        Due.is("goes nowhere", x.wool(23, 0, 1), 0);
        Due.is("is shorn no more", x.wool(23, 0, 2), 1);
        Due.is("no thorn", x.thorn(23), 0);
        Due.is("the other one", x.cloth(23, 0, 0), 11 + 27);
        Due.is("heaviest(3)", x.heaviest(3), 0);
        Due.is("heaviest(4)", x.heaviest(4), 1);
        x.round(4, 0, 1);
        Due.is("dies(1) not, of 9", x.dies(1), ShornSins.NONE);
        x.set(1, 9);
        Due.is("nobody lives", x.count(6), 0);
        Due.is("heaviest(4) of none", x.heaviest(4), ShornSins.NONE);
        Due.is("heaviest(3) of both", x.heaviest(3), 0);
    }

    private static void taxes() {
        ShornSins x = Due.told("h09;c08", "l0m;m1m;x0l");
        Due.is("tax(0)", x.tax(0), 9 + 9 + 8);
        Due.is("tax(1)", x.tax(1), 9 + 9 + 1 + 8 + 18);
        x.round(11, 0, 1);
        Due.is("tax(0) behind a round", x.tax(0), 8);
        Due.is("tax(1) behind a round", x.tax(1), 1 + 8 + 18);
        Due.is("tax(-1)", x.tax(-1), ShornSins.BAD);
        Due.is("tax(2)", x.tax(2), ShornSins.BAD);
    }

    private static void heaviest() {
        ShornSins x = Due.told("h04;h05;f15", "c2l;d0m");
        Due.is("heaviest(1): the least of like ones", x.heaviest(1), 1);
        Due.is("heaviest(2)", x.heaviest(2), 2);
        Due.is("heaviest(3)", x.heaviest(3), 0);
        ShornSins y = Due.told("h00;h00", "");
        Due.is("heaviest without wool", y.heaviest(0), 0);
        Due.is("heaviest of nobody", new ShornSins().heaviest(0), ShornSins.NONE);
        Due.is("heaviest(-1)", y.heaviest(-1), ShornSins.BAD);
        Due.is("heaviest(24)", y.heaviest(24), ShornSins.BAD);
    }

    private static void first() {
        ShornSins x = Due.told("h04;h06;f19;f29", "");
        Due.is("first(0) of none", x.first(0), ShornSins.NONE);
        Due.is("first(1) of none", x.first(1), ShornSins.NONE);
        x.round(2, 3, 4);
        x.round(9, 2, 1);
        x.round(7, 0, 2);
        x.round(7, 1, 2);
        Due.is("first(0)", x.first(0), 7);
        Due.is("first(1): by rounds, then by wool", x.first(1), 1);
        Due.is("first(-1)", x.first(-1), ShornSins.BAD);
        Due.is("first(2)", x.first(2), ShornSins.BAD);
    }

    private static void refusals() {
        ShornSins x = Due.told("f05", "");
        Due.is("wool(-1, 0, 0)", x.wool(-1, 0, 0), ShornSins.BAD);
        Due.is("wool(24, 0, 0)", x.wool(24, 0, 0), ShornSins.BAD);
        Due.is("wool(0, -1, 0)", x.wool(0, -1, 0), ShornSins.BAD);
        Due.is("wool(0, 1, 0)", x.wool(0, 1, 0), ShornSins.BAD);
        Due.is("wool(0, 0, -1)", x.wool(0, 0, -1), ShornSins.BAD);
        Due.is("wool(0, 0, 3)", x.wool(0, 0, 3), ShornSins.BAD);
        Due.is("dies(-1)", x.dies(-1), ShornSins.BAD);
        Due.is("dies(1)", x.dies(1), ShornSins.BAD);
        Due.is("cloth(-1, 0, 0)", x.cloth(-1, 0, 0), ShornSins.BAD);
        Due.is("cloth(24, 0, 0)", x.cloth(24, 0, 0), ShornSins.BAD);
        Due.is("cloth(0, -1, 0)", x.cloth(0, -1, 0), ShornSins.BAD);
        Due.is("cloth(0, 4, 0)", x.cloth(0, 4, 0), ShornSins.BAD);
        Due.is("cloth(0, 0, -1)", x.cloth(0, 0, -1), ShornSins.BAD);
        Due.is("cloth(0, 0, 2)", x.cloth(0, 0, 2), ShornSins.BAD);
        Due.is("thorn(-1)", x.thorn(-1), ShornSins.BAD);
        Due.is("thorn(24)", x.thorn(24), ShornSins.BAD);
    }
}
