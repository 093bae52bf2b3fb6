import java.math.BigInteger;

/** Sentences about what was seen, chance and other years, and promises 25 to 31. */
final class WhatWasSeen {
    private static final int LEAST = Integer.MIN_VALUE;
    private static final int GREATEST = Integer.MAX_VALUE;
    private static final int[] SEEDS = {0, 1, 2, 7, -1, LEAST, LEAST + 1, GREATEST, GREATEST - 1, 65535, 65536, -65536};

    private WhatWasSeen() {
    }

    static void hold() {
        Doc.section("Terms");
        seen();
        seenOfNobody();
        never();
        what();
        who();
        ask();
        virtue();
        virtueByItself();
        fractions();
        lots();
        years();
        longRefusal();
        promises();
    }

    private static void promises() {
        promiseSeen();
        promiseForget();
        promiseNever();
        promiseWas();
        promiseAsk();
        promiseVirtue();
        promiseYears();
    }

    private static void seen() {
        Doc.says("SEEN, 8 at most: behind a MONTH a PERSON (0 to 7; one that there is not: never) had so much WOOL (0 to 99)");
        Bounds.of("seen", (x, a) -> x.seen(0, a[0], 0)).from(0, 7).hold();
        Bounds.of("seen", (x, a) -> x.seen(0, 0, a[0])).from(0, 99).hold();
        ShornSins full = Due.told("h09", "a0l");
        for (int n = 1; n <= 8; n++) {
            Due.is("seen " + n, full.seen(0, 0, 9), n);
        }
        Due.is("a ninth", full.seen(0, 0, 8), ShornSins.FULL);
        Due.is("it was not seen", full.never(), 1);
        full.forget();
        Due.is("forgotten: one more", full.seen(0, 0, 8), 1);
        Due.is("and that was seen", full.never(), 0);
        for (int month : new int[] {0, 1, 22, 23}) {
            ShornSins x = Due.told("h09", (char) ('a' + month) + "0l;a7l");
            x.seen(month, 0, 10);
            Due.is("behind month " + month, x.never(), 2);
            x.forget();
            x.seen(month, 0, 9);
            Due.is("behind month " + month + ", without the deed", x.never(), 1);
        }
        ShornSins heavy = Due.told("h00;c09", "a1m;b1m;c1m;d1m;e1m;a7l;f0l");
        heavy.seen(4, 1, 99);
        Due.is("99 of wool", heavy.never(), 0x60);
        heavy.forget();
        heavy.seen(4, 1, 98);
        Due.is("98 of wool", heavy.never(), 0);
        heavy.forget();
        heavy.seen(4, 0, 0);
        Due.is("0 of wool", heavy.never(), 0x7f);
        heavy.seen(5, 0, 0);
        Due.is("0 of wool in month 5", heavy.never(), 0x40);
    }

    private static void seenOfNobody() {
        for (int person = 0; person <= 7; person++) {
            ShornSins x = Due.told("h09;h09;h09", "a7l;a0l");
            Due.is("seen of " + person, x.seen(23, person, 9), 1);
            int so = person == 0 ? 2 : person < 3 ? 3 : 0;
            Due.is("never(), seen of " + person, x.never(), so);
            Due.is("was(0, 0), seen of " + person, x.was(0, 0), person == 0 ? 0 : person < 3 ? 15 : 0);
            Due.is("was(0, 1), seen of " + person, x.was(0, 1), person == 0 ? 0 : person < 3 ? 7 - (1 << person) : 0);
            Due.is("ask(0), seen of " + person, x.ask(0), 0);
        }
        ShornSins none = Due.told("h09;h09;h09", "a7l;a0l");
        none.seen(0, 3, 0);
        Due.is("no wool of one that there is not", none.never(), 0);
    }

    private static void never() {
        Doc.says("NEVER: DEEDS each of which, had it alone not been, makes all that was SEEN come out so, as bits");
        Due.is("no deeds", new ShornSins().never(), 0);
        String ten = "a0l;b0l;c0l;d0l;e0l;f0l;g0l;h0l;i0l;j0l";
        for (int n = 1; n <= 10; n++) {
            ShornSins x = Due.told("h09", ten.substring(0, 4 * n - 1));
            Due.is("nothing seen, of " + n, x.never(), (1 << n) - 1);
            x.seen(23, 0, 9 + n - 1);
            Due.is("any of " + n, x.never(), (1 << n) - 1);
            x.seen(n - 1, 0, 9 + n - 1);
            Due.is("any of " + n + ", seen again", x.never(), (1 << n) - 1);
            if (n > 1) {
                x.seen(n - 2, 0, 9 + n - 1);
                Due.is("the last of " + n, x.never(), 1 << (n - 1));
                x.seen(n - 2, 0, 9 + n - 2);
                Due.is("both cannot be", x.never(), 0);
            }
        }
        ShornSins two = Due.told("h09", "a0m;b0m");
        two.seen(23, 0, 9);
        Due.is("not one alone", two.never(), 0);
        ShornSins as = Due.told("h09", "a0m");
        as.seen(23, 0, 18);
        Due.is("as it was told", as.never(), 0);
        ShornSins shorn = Due.told("h09;h08", "a1e");
        shorn.round(0, 0, 1);
        shorn.seen(0, 0, 0);
        Due.is("but for which another was shorn", shorn.never(), 1);
        ShornSins moults = Due.told("h00;h04", "a0l");
        moults.seen(0, 1, 3);
        Due.is("too heavy to moult", moults.never(), 0);
        moults.set(0, 4);
        Due.is("moults by another grace", moults.never(), 1);
        Due.is("whatever it was", moults.was(0, 0), 15);
        Due.is("not by the one that moults", moults.was(0, 1), 1);
    }

    private static void what() {
        Doc.says("WHAT of a DEED: 0 l, 1 e, 2 t, 3 m, in place of its own, likewise, as bits");
        int[] weighs = {1, 3, 4, 9};
        for (int own = 0; own <= 3; own++) {
            ShornSins x = Due.told("h09", "a7m;x0" + "letm".charAt(own));
            Due.is("nothing seen", x.was(1, 0), 15);
            x.seen(22, 0, 9);
            Due.is("seen ahead of it", x.was(1, 0), 15);
            for (int kind = 0; kind <= 3; kind++) {
                x.forget();
                x.seen(23, 0, 9 + weighs[kind]);
                Due.is("own " + own + ", seen as " + kind, x.was(1, 0), 1 << kind);
                Due.is("its own stays", x.deed(1, 2), own);
            }
            x.forget();
            x.seen(23, 0, 9);
            Due.is("none of them", x.was(1, 0), 0);
        }
        ShornSins fine = Due.told("f00", "a0m");
        fine.round(0, 0, 1);
        fine.seen(0, 0, 0);
        Due.is("shorn, whatever it was", fine.was(0, 0), 15);
        fine.set(1, 3);
        fine.frost(0);
        Due.is("dead or not", fine.was(0, 0), 15);
        ShornSins nobody = Due.told("h09", "a1m");
        nobody.seen(0, 0, 9);
        Due.is("of one that there is not", nobody.was(0, 0), 15);
        Due.is("with no people", Due.told("", "a0m").was(0, 0), 15);
    }

    private static void who() {
        Doc.says("WHO of a DEED: PEOPLE that there are, likewise, as bits");
        String eight = "h09;h09;h09;h09;h09;h09;h09;h09";
        Due.is("with no people", Due.told("", "a0m").was(0, 1), 0);
        for (int n = 1; n <= 8; n++) {
            ShornSins x = Due.told(eight.substring(0, 4 * n - 1), "b7l;b0m");
            Due.is("nothing seen, of " + n, x.was(1, 1), (1 << n) - 1);
            x.seen(1, n - 1, 18);
            int first = n == 8 ? 0 : 1 << (n - 1);
            Due.is("the last of " + n, x.was(1, 1), first);
            x.forget();
            x.seen(1, n - 1, 9);
            Due.is("not the last of " + n, x.was(1, 1), n == 8 ? 0 : (1 << (n - 1)) - 1);
            Due.is("as told it stays", x.deed(1, 1), 0);
        }
        ShornSins kinds = Due.told("f09;c09;h09", "b7e");
        kinds.seen(1, 1, 15);
        Due.is("the coarse one", kinds.was(0, 1), 2);
        kinds.seen(1, 2, 12);
        Due.is("not both", kinds.was(0, 1), 0);
    }

    private static void ask() {
        Doc.says("ASK of a PERSON: the MONTH behind which the greatest number of those DEEDS, but for which all SEEN is so, "
                + "by which its WOOL is alike is least, of like ones the least");
        Due.is("no deeds", Due.told("h09", "").ask(0), 0);
        for (int month = 0; month <= 23; month++) {
            char m = (char) ('a' + month);
            ShornSins x = Due.told("h09;h09", m + "0m;" + m + "0l");
            Due.is("told apart in month " + month, x.ask(0), month);
            Due.is("never told apart by another", x.ask(1), 0);
            x.seen(23, 0, 18);
            Due.is("only one is left", x.ask(0), 0);
            x.seen(23, 0, 17);
            Due.is("none is left", x.ask(0), 0);
        }
        ShornSins x = Due.told("h09", "a0e;b0e;c0m;d0t");
        Due.is("3, then 2 alike", x.ask(0), 1);
        x.seen(0, 0, 12);
        x.seen(1, 0, 15);
        Due.is("never()", x.never(), 12);
        Due.is("of those only", x.ask(0), 2);
        ShornSins last = Due.told("h00;h00", "b0l;w0l;x0l");
        last.set(0, 9);
        Due.is("2 alike in months 1 and 22, in month 23 none", last.ask(0), 23);
        Due.is("another had no part in it", last.ask(1), 0);
        ShornSins fewer = Due.told("h09;h09", "w1l;x1e;x1e;x1t");
        Due.is("4, in month 22 3, in month 23 2", fewer.ask(1), 23);
        ShornSins least = Due.told("h09;h09", "w1l;w1l;x1e;x1t");
        Due.is("4, in month 22 2, in month 23 still 2", least.ask(1), 22);
        ShornSins ten = Due.told("h09;h09", "x0l;x0l;x0l;x0l;w0l;x0l;x0l;x0l;x0l;x0l");
        Due.is("10, in month 22 9, in month 23 10 again", ten.ask(0), 22);
        Due.is("10 in all months", ten.ask(1), 0);
        ShornSins eight = Due.told("h09;h09;h09;h09;h09;h09;h09;h09", "c7l;d7m;f0l;f0m");
        Due.is("the first of eight: 2 alike in month 5", eight.ask(0), 5);
        Due.is("the eighth: 3 alike in month 2, 2 in month 3", eight.ask(7), 3);
        Due.is("one between", eight.ask(6), 0);
    }

    private static void virtueIs(ShornSins x, int c, int last, int p, long above, long below) {
        Due.is("virtue(" + c + ", " + last + ", " + p + ", 0)", x.virtue(c, last, p, 0), above);
        Due.is("virtue(" + c + ", " + last + ", " + p + ", 1)", x.virtue(c, last, p, 1), below);
    }

    private static void virtue() {
        Doc.says("VIRTUE: in each MONTH from 0 to a told one (0 to 9) there is FROST by c sixteenths (0 to 16), by itself, "
                + "in place of FROSTS: the chance that a PERSON lives behind MONTH 23: a FRACTION");
        for (int month = 0; month <= 23; month++) {
            ShornSins x = Due.told("h09;h19", "a0l");
            x.round(month, 0, 1);
            x.round(month, 1, 1);
            for (int last = 0; last <= 9; last++) {
                boolean may = month <= last;
                virtueIs(x, 3, last, 0, may ? 13 : 1, may ? 16 : 1);
                virtueIs(x, 0, last, 0, 1, 1);
                virtueIs(x, 16, last, 0, may ? 0 : 1, 1);
                virtueIs(x, 16, last, 1, 1, 1);
            }
        }
        ShornSins told = Due.told("h09", "a0l");
        told.round(3, 0, 1);
        told.frost(3);
        virtueIs(told, 0, 9, 0, 1, 1);
        virtueIs(told, 1, 9, 0, 15, 16);
        virtueIs(told, 16, 2, 0, 1, 1);
        Due.is("told frosts still tell", told.dies(0), 3);
        ShornSins later = Due.told("h09", "a0l");
        later.round(20, 0, 1);
        later.frost(20);
        virtueIs(later, 16, 9, 0, 1, 1);
        Due.is("told frosts still tell, later", later.dies(0), 20);
        virtueIs(Due.told("h09", "a0l"), 16, 9, 0, 1, 1);
    }

    private static void virtueByItself() {
        ShornSins x = Due.told("f05;h19;h19", "b0m;c0m");
        x.set(1, 5);
        x.round(0, 0, 1);
        x.round(1, 0, 2);
        virtueIs(x, 4, 0, 0, 3, 4);
        virtueIs(x, 4, 1, 0, 9, 16);
        virtueIs(x, 5, 1, 0, 121, 256);
        x.round(2, 0, 1);
        virtueIs(x, 5, 9, 0, 11 * 11 * 11, 16 * 16 * 16);
        x.round(2, 0, 1);
        virtueIs(x, 5, 9, 0, 11 * 11 * 11, 16 * 16 * 16);
        x.round(2, 1, 1);
        x.round(2, 1, 1);
        virtueIs(x, 5, 9, 1, 11, 16);
        virtueIs(x, 5, 9, 2, 11, 16);
        ShornSins most = Due.told("h09;h19", "a0l;b0l;c0l;d0l;e0l;f0l;g0l;h0l;i0l;j0l");
        most.set(1, 0);
        for (int month = 0; month < 8; month++) {
            most.round(month + 2, 0, 1);
        }
        long above = 1;
        long below = 1;
        for (int last = 0; last <= 9; last++) {
            above *= last < 2 ? 1 : 15;
            below *= last < 2 ? 1 : 16;
            virtueIs(most, 1, last, 0, above, below);
        }
        Due.is("beyond the ints", below, 1L << 32);
        virtueOfEach();
    }

    /** Eight of whom each is shorn in a month of its own, all eight of which may have frost. */
    private static void virtueOfEach() {
        ShornSins x = Due.told("h09;h19;h29;h39;h08;h18;h28;h38", "");
        x.set(1, 8);
        for (int i = 0; i < 8; i++) {
            x.round(i + 2, i % 4, 1);
        }
        for (int p = 0; p < 8; p++) {
            virtueIs(x, 5, 9, p, 11, 16);
            virtueIs(x, 5, p + 1, p, 1, 1);
            virtueIs(x, 5, p + 2 > 9 ? 9 : p + 2, p, 11, 16);
        }
        x.set(1, 9);
        virtueIs(x, 5, 9, 3, 11, 16);
        virtueIs(x, 5, 9, 4, 1, 1);
        x.set(0, 9);
        virtueIs(x, 5, 9, 3, 1, 1);
        x.set(0, 3);
        virtueIs(x, 5, 9, 3, 11, 16);
        x.set(1, 8);
        virtueIs(x, 0, 9, 3, 1, 1);
        virtueIs(x, 5, 9, 3, 11, 16);
        x.back(0);
        virtueIs(x, 16, 9, 3, 0, 1);
        virtueIs(x, 16, 9, 7, 1, 1);
    }

    private static void fractions() {
        Doc.says("FRACTIONS are told in lowest terms, above and below (0 by 1)");
        int[][] due = {{1, 1}, {15, 16}, {7, 8}, {13, 16}, {3, 4}, {11, 16}, {5, 8}, {9, 16}, {1, 2}, {7, 16}, {3, 8},
            {5, 16}, {1, 4}, {3, 16}, {1, 8}, {1, 16}, {0, 1}};
        for (int c = 0; c <= 16; c++) {
            ShornSins x = Due.told("h09", "a0l");
            x.round(0, 0, 1);
            virtueIs(x, c, 0, 0, due[c][0], due[c][1]);
            virtueIs(x, c, 9, 0, due[c][0], due[c][1]);
        }
        ShornSins two = Due.told("h09", "a0l;b0m");
        two.set(1, 9);
        two.round(0, 0, 1);
        two.round(1, 0, 1);
        virtueIs(two, 8, 1, 0, 1, 4);
        virtueIs(two, 16, 1, 0, 0, 1);
        virtueIs(two, 12, 1, 0, 1, 16);
        virtueIs(two, 15, 1, 0, 1, 256);
    }

    /** The LOTS by a SEED, by way of numbers without end. */
    private static int[] lotsOf(int seed, int... of) {
        BigInteger round = BigInteger.ONE.shiftLeft(32);
        BigInteger now = BigInteger.valueOf(seed).mod(round);
        int[] lots = new int[of.length];
        for (int i = 0; i < of.length; i++) {
            now = now.multiply(BigInteger.valueOf(1103515245)).add(BigInteger.valueOf(12345)).mod(round);
            lots[i] = now.shiftRight(16).intValueExact() % of[i];
        }
        return lots;
    }

    /** Of one hogget of 9: both taxes, by deeds that are the lots of the seed. */
    private static int taxesOf(int seed, int n) {
        int[] of = new int[3 * n];
        for (int i = 0; i < of.length; i++) {
            of[i] = i % 3 == 0 ? 24 : i % 3 == 1 ? 1 : 4;
        }
        int[] lots = lotsOf(seed, of);
        int taxes = 18;
        for (int i = 0; i < of.length; i += 3) {
            int weighs = new int[] {1, 3, 4, 9}[lots[i + 2]];
            taxes += lots[i] <= 11 ? 2 * weighs : weighs;
        }
        return taxes;
    }

    private static void lots() {
        Doc.says("LOTS of m: SEED becomes 1103515245 SEED and 12345, as ints that wrap; its upper 16 bits as a number from "
                + "0 on, modulo m");
        // By hand: of 1 come 1103527590, 2524885223, 662824084; upper bits 16838, 38526 (above 32767), 10113.
        int[] byHand = lotsOf(1, 24, 2, 4);
        Due.is("a lot of 24", byHand[0], 14);
        Due.is("a lot of 2", byHand[1], 0);
        Due.is("a lot of 4", byHand[2], 1);
        ShornSins two = Due.told("h09;c09", "");
        Due.is("years(1, 1, 1) of two", two.years(1, 1, 1), 18 + 18 + 3);
        ShornSins x = Due.told("h09", "");
        for (int seed : SEEDS) {
            for (int n = 1; n <= 10; n++) {
                Due.is("years(" + seed + ", " + n + ", 1)", x.years(seed, n, 1), taxesOf(seed, n));
            }
        }
        for (int people = 1; people <= 8; people++) {
            ShornSins y = Due.told("h19;h19;h19;h19;h19;h19;h19;h09".substring(4 * (8 - people)), "");
            y.round(23, 0, 4);
            for (int seed : SEEDS) {
                int[] lots = lotsOf(seed, 24, people, 4);
                int weighs = lots[1] == people - 1 ? new int[] {1, 3, 4, 9}[lots[2]] : 0;
                Due.is("years(" + seed + ", 1, 0) of " + people, y.years(seed, 1, 0), 2 * (9 + weighs));
            }
        }
    }

    private static void years() {
        Doc.says("YEARS by a SEED: n DEEDS (1 to 10), in place of those told, each a LOT of 24, a LOT of PEOPLE, a LOT of 4 "
                + "(no LOTS, no DEEDS where there are no PEOPLE): the WORTH of all CLOTH; both TAXES together");
        ShornSins x = Due.told("h09", "a0m;b0m");
        Due.is("in place of those told", x.years(1, 1, 1), taxesOf(1, 1));
        Due.is("those told stay", x.count(1), 2);
        Due.is("and tell", x.wool(1, 0, 0), 27);
        x.round(23, 0, 1);
        Due.is("no cloth is told with its tax", x.years(1, 1, 1), 9);
        Due.is("the worth", x.years(1, 1, 0), 2 * (9 + 3));
        Bounds.of("years", (y, a) -> y.years(1, a[0], 0)).from(1, 10).holdAsking();
        for (int seed : SEEDS) {
            for (int n = 1; n <= 10; n += 9) {
                ShornSins none = Due.told("", "a0m");
                none.round(23, 0, 1);
                Due.is("years(" + seed + ", " + n + ", 0) of nobody", none.years(seed, n, 0), 0);
                Due.is("years(" + seed + ", " + n + ", 1) of nobody", none.years(seed, n, 1), 0);
            }
        }
        ShornSins frost = Due.told("h09;h19", "");
        frost.set(1, 9);
        frost.frost(0);
        frost.round(0, 0, 1);
        Due.is("all else as told", frost.years(1, 1, 0), 18);
        Due.is("the dead do nothing in month 14", frost.years(1, 1, 1), 18);
        ShornSins moults = Due.told("h09", "");
        moults.set(0, 9);
        Due.is("all has moulted, the envy of month 14 too", moults.years(1, 1, 1), 0);
    }

    private static void longRefusal() {
        Doc.says("Where the answer is a long, a refusal -x is the least long and x more");
        Due.is("virtue of nobody", new ShornSins().virtue(0, 0, 0, 0), Long.MIN_VALUE + 2);
        Due.is("virtue of nobody, by its digits", new ShornSins().virtue(0, 0, 0, 0), -9223372036854775806L);
    }

    private static void promiseSeen() {
        Doc.section("Promise 25: seen");
        Doc.says("SEEN more: how many");
        ShornSins x = new ShornSins();
        for (int n = 1; n <= 8; n++) {
            Due.is("seen(23, 7, 99)", x.seen(23, 7, 99), n);
            Due.is("count(7)", x.count(7), n);
        }
        Doc.says("BAD; FULL");
        Bounds.of("seen", (y, a) -> y.seen(a[0], a[1], a[2])).month().from(0, 7).from(0, 99).hold();
        Country.FULL.keeps("seen(0, 0, 0)", y -> y.seen(0, 0, 0), ShornSins.FULL);
        Country.FULL.keeps("seen(23, 7, 99)", y -> y.seen(23, 7, 99), ShornSins.FULL);
        Country.FULL.keeps("seen(24, 0, 0)", y -> y.seen(24, 0, 0), ShornSins.BAD);
        Country.FULL.keeps("seen(0, 8, 0)", y -> y.seen(0, 8, 0), ShornSins.BAD);
        Country.FULL.keeps("seen(0, 0, 100)", y -> y.seen(0, 0, 100), ShornSins.BAD);
    }

    private static void promiseForget() {
        Doc.section("Promise 26: forget");
        Doc.says("All SEEN are forgotten: how many");
        for (int n = 0; n <= 8; n++) {
            ShornSins x = Due.told("h09", "a0l");
            for (int i = 0; i < n; i++) {
                x.seen(0, 0, 50);
            }
            Due.is("never(), " + n + " seen", x.never(), n == 0 ? 1 : 0);
            Due.is("forget()", x.forget(), n);
            Due.is("count(7)", x.count(7), 0);
            Due.is("never(), none seen", x.never(), 1);
            Due.is("forget() again", x.forget(), 0);
            Due.is("the first again", x.seen(0, 0, 9), 1);
        }
    }

    private static void promiseNever() {
        Doc.section("Promise 27: never");
        Doc.says("NEVER, as bits");
        Country.EMPTY.keeps("never()", x -> x.never(), 0);
        Country.SOME.keeps("never()", x -> x.never(), 15);
        ShornSins x = Due.told("h09", "a0l;b0l;c0l;d0l;e0l;f0l;g0l;h0l;i0l;j0m");
        Due.is("all ten", x.never(), 1023);
        x.seen(9, 0, 18);
        Due.is("the tenth", x.never(), 512);
        x.type(1, ';');
        Due.is("none with a fault, nor room for an eleventh", x.never(), 512);
        x.undo(1);
        Due.is("none with a fault", x.never(), 0);
    }

    private static void promiseWas() {
        Doc.section("Promise 28: was");
        Doc.says("WHAT (what = 0), WHO (1), as bits");
        ShornSins x = Due.told("h09;h09", "a0l;b1m");
        x.seen(1, 1, 13);
        Due.is("was(0, 0)", x.was(0, 0), 0);
        Due.is("was(1, 0)", x.was(1, 0), 4);
        Due.is("was(1, 1)", x.was(1, 1), 0);
        x.forget();
        Due.is("was(1, 0), nothing seen", x.was(1, 0), 15);
        Due.is("was(1, 1), nothing seen", x.was(1, 1), 3);
        Doc.says("BAD");
        Bounds.of("was", (y, a) -> y.was(a[0], a[1])).deed().from(0, 1).holdAsking();
    }

    private static void promiseAsk() {
        Doc.section("Promise 29: ask");
        Doc.says("ASK");
        Due.is("ask(0)", Due.told("h09", "f0l;f0m").ask(0), 5);
        Doc.says("BAD");
        Bounds.of("ask", (y, a) -> y.ask(a[0])).person().holdAsking();
    }

    private static void promiseVirtue() {
        Doc.section("Promise 30: virtue");
        Doc.says("VIRTUE: c sixteenths, up to last (0 to 9): above, below");
        ShornSins x = Due.told("h09;h19", "a0l;a1l");
        x.round(0, 0, 1);
        x.round(9, 1, 1);
        virtueIs(x, 6, 0, 0, 5, 8);
        virtueIs(x, 6, 8, 1, 1, 1);
        virtueIs(x, 6, 9, 1, 5, 8);
        virtueIs(x, 7, 9, 1, 9, 16);
        x.set(1, 11);
        virtueIs(x, 7, 9, 1, 1, 1);
        long bad = Long.MIN_VALUE + 2;
        Bounds virtue = Bounds.of("virtue", (y, a) -> y.virtue(a[0], a[1], a[2], a[3]))
                .from(0, 16).from(0, 9).person().from(0, 1).refusing(bad);
        Doc.says("BAD");
        virtue.holdAsking();
        Doc.says("(As the least long.)");
        Due.is("virtue(17, 0, 0, 0)", x.virtue(17, 0, 0, 0), bad);
        Due.is("virtue(0, 10, 0, 0)", x.virtue(0, 10, 0, 0), bad);
        Due.is("virtue(0, 0, 2, 0)", x.virtue(0, 0, 2, 0), bad);
        Due.is("virtue(0, 0, 0, 2)", x.virtue(0, 0, 0, 2), bad);
    }

    private static void promiseYears() {
        Doc.section("Promise 31: years");
        Doc.says("YEARS: the WORTH (what = 0), TAXES (1)");
        ShornSins x = Due.told("h09", "");
        Due.is("years(7, 9, 0), no rounds", x.years(7, 9, 0), 0);
        Due.is("years(7, 9, 1)", x.years(7, 9, 1), taxesOf(7, 9));
        Doc.says("BAD");
        Bounds.of("years", (y, a) -> y.years(a[0], a[1], a[2])).any().from(1, 10).from(0, 1).holdAsking();
    }
}
