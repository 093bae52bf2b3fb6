import java.math.BigInteger;

/** Sentences about sheets, findings and refusals, and promises 32 to 39. */
final class WhatIsWritten {
    private static final int LEAST = Integer.MIN_VALUE;
    private static final int GREATEST = Integer.MAX_VALUE;
    private static final int NULL = 1;
    private static final int INDEX = 2;
    private static final int CAST = 3;
    private static final int STORE = 4;
    private static final int SIZE = 5;

    private WhatIsWritten() {
    }

    static void hold() {
        Doc.section("Terms");
        sheets();
        findings();
        orderOfRefusals();
        refusalsChangeNothing();
        promises();
    }

    private static void promises() {
        sheet();
        lose();
        put();
        putRefused();
        get();
        copy();
        copyWithin();
        copyRefused();
        write();
        writeRefused();
        count();
        digest();
    }

    private static void sheets() {
        Doc.says("SHEETS 0 .. 3 are LOST (at first) or a row of a FORM: 0 bytes, 1 shorts, 2 ints, of 0 to 60 items "
                + "(0 at first)");
        ShornSins x = new ShornSins();
        for (int s = 0; s <= 3; s++) {
            Due.is("lose(" + s + ") at first", x.lose(s), -11);
        }
        int[] beyond = {256, 65536, LEAST};
        for (int form = 0; form <= 2; form++) {
            for (int n : new int[] {0, 1, 2, 59, 60}) {
                ShornSins y = new ShornSins();
                Due.is("sheet(3, " + form + ", " + n + ")", y.sheet(3, form, n), n);
                for (int i = 0; i < n; i++) {
                    Due.is("item " + i + " at first", y.get(3, form, i), 0);
                }
                Due.is("one item beyond", y.put(3, form, n, 0), -12);
                if (n > 0) {
                    Due.is("the last item", y.put(3, form, n - 1, beyond[form] - 1), 1);
                    Due.is("as it was put", y.get(3, form, n - 1), form == 2 ? GREATEST : -1);
                }
                Due.is("lose(3)", y.lose(3), n);
            }
            int of = form;
            Bounds.of("sheet", (y, a) -> y.sheet(0, of, a[0])).from(LEAST, 60).hold();
        }
        for (int s = 0; s <= 3; s++) {
            Due.is("sheet(" + s + ", 2, 1)", x.sheet(s, 2, 1), 1);
            Due.is("put(" + s + ", 2, 0, s)", x.put(s, 2, 0, s + 5), 1);
        }
        for (int s = 0; s <= 3; s++) {
            Due.is("each has its own", x.get(s, 2, 0), s + 5);
        }
    }

    private static void findings() {
        Doc.says("FINDINGS (answers -10 less the number; they change nothing but count() 8): 1 NULL: the SHEET is LOST; "
                + "2 INDEX: there is no such item; 3 CAST: it has another FORM; 4 STORE: unlike FORMS; 5 SIZE: below 0");
        Country.SOME.finds("lose(3)", x -> x.lose(3), -11, NULL);
        Country.SOME.finds("put(0, 0, 3, 9)", x -> x.put(0, 0, 3, 9), -12, INDEX);
        Country.SOME.finds("put(0, 1, 0, 9)", x -> x.put(0, 1, 0, 9), -13, CAST);
        Country.SOME.finds("copy(0, 0, 1, 0, 1)", x -> x.copy(0, 0, 1, 0, 1), -14, STORE);
        Country.SOME.finds("sheet(0, 0, -1)", x -> x.sheet(0, 0, -1), -15, SIZE);
        ShornSins x = Country.SOME.make();
        Due.is("count(8) ahead of any", x.count(8), 0);
        x.sheet(0, 0, -1);
        Due.is("count(8)", x.count(8), SIZE);
        x.get(0, 0, 3);
        Due.is("count(8), the latest", x.count(8), INDEX);
        x.get(0, 0, 2);
        x.put(0, 0, 2, 5);
        x.sheet(4, 0, 5);
        x.type(0, 256);
        Due.is("count(8), nothing found since", x.count(8), INDEX);
    }

    /** Where two refusals fit, the one told first. */
    private static void orderOfRefusals() {
        Doc.says("Refusals, the first that fits, in the order told at each act: BAD -2 (a number not as told, no such thing), "
                + "NULL, NOT -3 (as told), FULL -4, other FINDINGS");
        Country full = Country.FULL;
        full.keeps("type, BAD and FULL", x -> x.type(0, 256), -2);
        full.keeps("type, FULL", x -> x.type(0, 255), -4);
        full.keeps("round, BAD and FULL", x -> x.round(0, 0, 5), -2);
        full.keeps("round, FULL", x -> x.round(0, 0, 4), -4);
        full.keeps("journey, BAD and FULL", x -> x.journey(0, 8, 0), -2);
        full.keeps("journey, FULL", x -> x.journey(0, 7, 0), -4);
        full.keeps("frost, BAD and FULL", x -> x.frost(24), -2);
        full.keeps("frost, FULL", x -> x.frost(23), -4);
        full.keeps("seen, BAD and FULL", x -> x.seen(0, 0, 100), -2);
        full.keeps("seen, FULL", x -> x.seen(0, 0, 99), -4);
        Country some = Country.SOME;
        some.keeps("put, BAD and NULL", x -> x.put(3, 3, 0, 0), -2);
        some.keeps("put, BAD, CAST and INDEX", x -> x.put(0, -1, -1, 0), -2);
        some.finds("put, NULL and INDEX", x -> x.put(3, 0, -1, 0), NULL);
        some.finds("put, CAST and INDEX", x -> x.put(0, 2, 3, 0), CAST);
        some.keeps("get, BAD and NULL", x -> x.get(3, 3, 0), LEAST);
        some.finds("get, NULL and INDEX", x -> x.get(3, 0, -1), LEAST, NULL);
        some.finds("get, CAST and INDEX", x -> x.get(0, 2, 3), LEAST, CAST);
        some.keeps("copy, BAD and NULL", x -> x.copy(3, 0, 4, 0, 0), -2);
        some.keeps("copy, BAD and INDEX", x -> x.copy(-1, -1, 0, -1, -1), -2);
        some.finds("copy, NULL and INDEX", x -> x.copy(3, -1, 0, -1, -1), NULL);
        some.finds("copy, NULL of the other and INDEX", x -> x.copy(0, -1, 3, -1, -1), NULL);
        some.finds("copy, STORE and INDEX", x -> x.copy(0, -1, 1, -1, -1), STORE);
        some.keeps("sheet, BAD and SIZE", x -> x.sheet(4, 0, -1), -2);
        some.keeps("sheet, BAD of the form and SIZE", x -> x.sheet(0, 3, -1), -2);
        some.keeps("write, BAD and NULL", x -> x.write(3, 3), -2);
        Country.EMPTY.keeps("undo, NOT", x -> x.undo(0), -3);
        Country.EMPTY.keeps("undo, BAD", x -> x.undo(2), -2);
        Country.EMPTY.keeps("back, NOT", x -> x.back(2), -3);
        Country.EMPTY.keeps("back, BAD", x -> x.back(3), -2);
        Country.EMPTY.keeps("person, no such thing", x -> x.person(0, 0), -2);
        Country.EMPTY.keeps("deed, no such thing", x -> x.deed(0, 0), -2);
    }

    /** A refusal behind another: the second changes as little as the first. */
    private static void refusalsChangeNothing() {
        Doc.says("They change nothing (FINDINGS but count() 8)");
        for (Country country : Country.values()) {
            for (int v : new int[] {LEAST, -2, 100, GREATEST}) {
                country.keeps("many that are BAD, of " + v, x -> sumOfBad(x, v), 33 * ShornSins.BAD);
            }
            country.finds("a finding behind another", x -> x.sheet(0, 0, LEAST) + x.sheet(3, 2, -1), -30, SIZE);
        }
        Country.EMPTY.keeps("many that are NOT", x -> x.undo(0) + x.undo(1) + x.back(0) + x.back(1) + x.back(2), -15);
        Country.FULL.keeps("many that are FULL", x -> x.type(0, 0) + x.type(1, 0) + x.round(0, 0, 1)
                + x.journey(0, 0, 0) + x.frost(0) + x.seen(0, 0, 0), -24);
    }

    /** Every call that takes a number, with one that is nothing anywhere. */
    private static long sumOfBad(ShornSins x, int v) {
        Due.is("get", x.get(v, v, v), LEAST);
        Due.is("virtue", x.virtue(v, v, v, v), Long.MIN_VALUE + 2);
        return x.type(v, v) + x.wipe(v) + x.undo(v) + x.fault(v) + x.person(v, v) + x.deed(v, v)
                + x.set(v, v) + x.round(v, v, v) + x.journey(v, v, v) + x.frost(v) + x.back(v) + x.read(v)
                + x.wool(v, v, v) + x.dies(v) + x.cloth(v, v, v) + x.thorn(v) + x.tax(v) + x.heaviest(v)
                + x.first(v) + x.plan(v, v) + x.light(v, v, v) + x.spare(v) + x.home(v, v)
                + x.seen(v, v, v) + x.was(v, v) + x.ask(v) + x.years(v, v, v) + x.sheet(v, v, v)
                + x.lose(v) + x.put(v, v, v, v) + x.copy(v, v, v, v, v) + x.write(v, v) + x.count(v);
    }

    private static void sheet() {
        Doc.section("Promise 32: sheet");
        Doc.says("A SHEET is a new row of a FORM with n items: n");
        ShornSins x = new ShornSins();
        for (int form = 0; form <= 2; form++) {
            for (int n : new int[] {60, 59, 1, 0, 60}) {
                Due.is("sheet(1, " + form + ", " + n + ")", x.sheet(1, form, n), n);
                if (n > 0) {
                    Due.is("a new row: the first", x.get(1, form, 0), 0);
                    Due.is("a new row: the last", x.get(1, form, n - 1), 0);
                    Due.is("put(1, .., 0, 7)", x.put(1, form, 0, 7), 1);
                    Due.is("put(1, .., n - 1, 7)", x.put(1, form, n - 1, 7), 1);
                }
            }
        }
        Due.is("count(8)", x.count(8), 0);
        x.sheet(1, 2, 5);
        x.put(1, 2, 4, 9);
        x.sheet(1, 2, 3);
        x.sheet(1, 2, 5);
        Due.is("nothing of a row before", x.get(1, 2, 4), 0);
        Doc.says("BAD: SHEET, FORM, above 60; SIZE");
        Bounds.of("sheet", (y, a) -> y.sheet(a[0], a[1], a[2])).from(0, 3).from(0, 2).from(LEAST, 60).hold();
        for (Country country : Country.values()) {
            for (int n : new int[] {-1, -2, LEAST + 1, LEAST}) {
                country.finds("sheet(1, 1, " + n + ")", y -> y.sheet(1, 1, n), SIZE);
                country.keeps("sheet(1, 3, " + n + ")", y -> y.sheet(1, 3, n), ShornSins.BAD);
                country.keeps("sheet(4, 1, " + n + ")", y -> y.sheet(4, 1, n), ShornSins.BAD);
            }
        }
    }

    private static void lose() {
        Doc.section("Promise 33: lose");
        Doc.says("It is LOST: how many items it had");
        for (int s = 0; s <= 3; s++) {
            ShornSins x = Country.FULL.make();
            Due.is("lose(" + s + ")", x.lose(s), new int[] {6, 2, 60, 3}[s]);
            Due.is("it is LOST", x.lose(s), -11);
            for (int other = 0; other <= 3; other++) {
                Due.is("read(" + other + ")", x.read(other) == -11 ? 1 : 0, other == s ? 1 : 0);
            }
        }
        ShornSins none = Country.SOME.make();
        Due.is("lose(2), of no items", none.lose(2), 0);
        Due.is("lose(2), LOST", none.lose(2), -11);
        Doc.says("BAD; NULL");
        Bounds.of("lose", (x, a) -> x.lose(a[0])).from(0, 3).hold();
        for (int s = 0; s <= 3; s++) {
            int of = s;
            Country.EMPTY.finds("lose(" + s + ")", x -> x.lose(of), NULL);
        }
    }

    private static void put() {
        Doc.section("Promise 34: put");
        Doc.says("Item i, treated as of a FORM, becomes v (the lowest bits that it has): 1");
        int[] values = {0, 1, -1, 127, 128, 129, -127, -128, -129, 254, 255, 256, 257, 32767, 32768, -32768, -32769, 65535,
            65536, 65537, 40000, GREATEST, GREATEST - 1, LEAST + 1, LEAST};
        ShornSins x = new ShornSins();
        for (int form = 0; form <= 2; form++) {
            x.sheet(form, form, 3);
            x.put(form, form, 0, 11);
            x.put(form, form, 2, 12);
        }
        for (int v : values) {
            for (int form = 0; form <= 2; form++) {
                Due.is("put(" + form + ", " + form + ", 1, " + v + ")", x.put(form, form, 1, v), 1);
                int high = form == 0 ? 24 : form == 1 ? 16 : 0;
                Due.is("get(" + form + ", " + form + ", 1) of " + v, x.get(form, form, 1), v << high >> high);
            }
        }
        Due.is("a byte of 128", lowest(0, 128), -128);
        Due.is("a byte of 255", lowest(0, 255), -1);
        Due.is("a byte of -129", lowest(0, -129), 127);
        Due.is("a short of 32768", lowest(1, 32768), -32768);
        Due.is("a short of 65535", lowest(1, 65535), -1);
        Due.is("a short of -32769", lowest(1, -32769), 32767);
        for (int form = 0; form <= 2; form++) {
            Due.is("the item before stays", x.get(form, form, 0), 11);
            Due.is("the item behind stays", x.get(form, form, 2), 12);
        }
    }

    private static int lowest(int form, int v) {
        ShornSins x = new ShornSins();
        x.sheet(0, form, 1);
        x.put(0, form, 0, v);
        return x.get(0, form, 0);
    }

    private static void putRefused() {
        Doc.says("BAD; NULL; CAST; INDEX");
        Bounds.of("put", (x, a) -> x.put(a[0], a[1], a[2], a[3])).from(0, 3).from(0, 2).any().any().hold();
        for (int form = 0; form <= 2; form++) {
            int of = form;
            for (int i : new int[] {LEAST, -1, 0, 60, GREATEST}) {
                Country.EMPTY.finds("put(0, " + form + ", " + i + ", 1)", x -> x.put(0, of, i, 1), NULL);
                Country.SOME.finds("put(3, " + form + ", " + i + ", 1)", x -> x.put(3, of, i, 1), NULL);
                if (form != 1) {
                    Country.SOME.finds("put(1, " + form + ", " + i + ", 1)", x -> x.put(1, of, i, 1), CAST);
                }
            }
        }
        for (int i : new int[] {LEAST, -1, 2, 3, 59, 60, GREATEST}) {
            Country.SOME.finds("put(1, 1, " + i + ", 1)", x -> x.put(1, 1, i, 1), INDEX);
        }
        for (int i : new int[] {LEAST, -1, 0, 1, GREATEST}) {
            Country.SOME.finds("put(2, 2, " + i + ", 1), no items", x -> x.put(2, 2, i, 1), INDEX);
        }
        for (int i : new int[] {LEAST, -1, 60, 61, GREATEST}) {
            Country.FULL.finds("put(2, 2, " + i + ", 1), 60 items", x -> x.put(2, 2, i, 1), INDEX);
        }
    }

    private static void get() {
        Doc.section("Promise 35: get");
        Doc.says("Item i of it");
        Country.FULL.keeps("get(0, 0, 0)", x -> x.get(0, 0, 0), 1);
        Country.FULL.keeps("get(0, 0, 5)", x -> x.get(0, 0, 5), -6);
        Country.FULL.keeps("get(1, 1, 0)", x -> x.get(1, 1, 0), 300);
        Country.FULL.keeps("get(2, 2, 0)", x -> x.get(2, 2, 0), 0);
        Country.FULL.keeps("get(2, 2, 58)", x -> x.get(2, 2, 58), 0);
        Country.FULL.keeps("get(2, 2, 59)", x -> x.get(2, 2, 59), GREATEST);
        ShornSins least = new ShornSins();
        least.sheet(0, 2, 1);
        least.put(0, 2, 0, LEAST);
        Due.is("the least int put", least.get(0, 2, 0), LEAST);
        Due.is("count(8), nothing found", least.count(8), 0);
        Doc.says("BAD: the least int; so are NULL, CAST, INDEX (count() 8 tells)");
        for (Country country : Country.values()) {
            for (int v : new int[] {LEAST, -1, 4, GREATEST}) {
                country.keeps("get(" + v + ", 0, 0)", x -> x.get(v, 0, 0), LEAST);
            }
            for (int v : new int[] {LEAST, -1, 3, GREATEST}) {
                country.keeps("get(0, " + v + ", 0)", x -> x.get(0, v, 0), LEAST);
                country.keeps("get(3, " + v + ", -1)", x -> x.get(3, v, -1), LEAST);
            }
        }
        for (int i : new int[] {LEAST, -1, 0, 60, GREATEST}) {
            Country.SOME.finds("get(3, 0, " + i + ")", x -> x.get(3, 0, i), LEAST, NULL);
            Country.SOME.finds("get(0, 1, " + i + ")", x -> x.get(0, 1, i), LEAST, CAST);
            Country.SOME.finds("get(0, 2, " + i + ")", x -> x.get(0, 2, i), LEAST, CAST);
            Country.SOME.finds("get(2, 2, " + i + "), no items", x -> x.get(2, 2, i), LEAST, INDEX);
        }
        for (int i : new int[] {LEAST, -1, 3, 4, 60, GREATEST}) {
            Country.SOME.finds("get(0, 0, " + i + ")", x -> x.get(0, 0, i), LEAST, INDEX);
        }
        for (int i : new int[] {LEAST, -1, 60, 61, GREATEST}) {
            Country.FULL.finds("get(2, 2, " + i + "), 60 items", x -> x.get(2, 2, i), LEAST, INDEX);
        }
    }

    /** Sheets 0 and 1 of a form, of five and three items: 10 to 14, and 0. */
    private static ShornSins pages(int form) {
        ShornSins x = new ShornSins();
        Country.fill(x, 0, form, 10, 11, 12, 13, 14);
        Country.fill(x, 1, form, 0, 0, 0);
        return x;
    }

    private static void itemsAre(ShornSins x, int s, int form, int... due) {
        for (int i = 0; i < due.length; i++) {
            Due.is("get(" + s + ", " + form + ", " + i + ")", x.get(s, form, i), due[i]);
        }
    }

    private static void copy() {
        Doc.section("Promise 36: copy");
        Doc.says("n items of SHEET s, from i on, come to SHEET t (perhaps s, as they were), from j on: 1");
        for (int form = 0; form <= 2; form++) {
            ShornSins x = pages(form);
            Due.is("copy of nothing", x.copy(0, 0, 1, 0, 0), 1);
            Due.is("copy of nothing, from end to end", x.copy(0, 5, 1, 3, 0), 1);
            itemsAre(x, 1, form, 0, 0, 0);
            Due.is("copy of one", x.copy(0, 4, 1, 2, 1), 1);
            itemsAre(x, 1, form, 0, 0, 14);
            Due.is("copy of two", x.copy(0, 0, 1, 1, 2), 1);
            itemsAre(x, 1, form, 0, 10, 11);
            Due.is("copy of all that go in", x.copy(0, 2, 1, 0, 3), 1);
            itemsAre(x, 1, form, 12, 13, 14);
            itemsAre(x, 0, form, 10, 11, 12, 13, 14);
            Due.is("and back", x.copy(1, 0, 0, 0, 3), 1);
            itemsAre(x, 0, form, 12, 13, 14, 13, 14);
        }
        ShornSins all = new ShornSins();
        all.sheet(2, 2, 60);
        all.sheet(3, 2, 60);
        all.put(2, 2, 0, LEAST + 1);
        all.put(2, 2, 59, GREATEST);
        Due.is("copy of 60", all.copy(2, 0, 3, 0, 60), 1);
        Due.is("the first of 60", all.get(3, 2, 0), LEAST + 1);
        Due.is("the last of 60", all.get(3, 2, 59), GREATEST);
        all.sheet(0, 0, 0);
        all.sheet(1, 0, 0);
        Due.is("copy of nothing, no items", all.copy(0, 0, 1, 0, 0), 1);
    }

    private static void copyWithin() {
        for (int form = 0; form <= 2; form++) {
            ShornSins up = pages(form);
            Due.is("upwards", up.copy(0, 0, 0, 1, 4), 1);
            itemsAre(up, 0, form, 10, 10, 11, 12, 13);
            ShornSins down = pages(form);
            Due.is("downwards", down.copy(0, 1, 0, 0, 4), 1);
            itemsAre(down, 0, form, 11, 12, 13, 14, 14);
            ShornSins same = pages(form);
            Due.is("to where they are", same.copy(0, 0, 0, 0, 5), 1);
            itemsAre(same, 0, form, 10, 11, 12, 13, 14);
            itemsAre(same, 1, form, 0, 0, 0);
        }
    }

    private static void copyRefused() {
        Doc.says("BAD: the SHEETS; NULL: s, t; STORE; INDEX: below 0, not so many");
        Bounds.of("copy", (x, a) -> x.copy(a[0], a[1], a[2], a[3], a[4]))
                .from(0, 3).any().from(0, 3).any().any().hold();
        Country.EMPTY.finds("copy, both LOST", x -> x.copy(0, 0, 1, 0, 0), NULL);
        Country.EMPTY.finds("copy, itself LOST", x -> x.copy(2, 0, 2, 0, 0), NULL);
        Country.SOME.finds("copy, s LOST", x -> x.copy(3, 0, 0, 0, 0), NULL);
        Country.SOME.finds("copy, t LOST", x -> x.copy(0, 0, 3, 0, 0), NULL);
        Country.SOME.finds("copy, bytes to shorts", x -> x.copy(0, 0, 1, 0, 0), STORE);
        Country.SOME.finds("copy, shorts to ints", x -> x.copy(1, 0, 2, 0, 0), STORE);
        Country.SOME.finds("copy, ints to bytes", x -> x.copy(2, 0, 0, 0, 0), STORE);
        // Sheet 3 of FULL has three ints, sheet 2 has sixty.
        int[][] wrong = {{-1, 0, 0}, {-1, 0, 1}, {0, -1, 0}, {0, -1, 1}, {0, 0, -1}, {0, 0, 4}, {1, 0, 3}, {2, 0, 2}, {3, 0, 1},
            {4, 0, 0}, {0, 58, 3}, {0, 59, 2}, {0, 60, 1}, {0, 61, 0}, {0, 0, GREATEST}, {1, 1, GREATEST},
            {GREATEST, 0, 1}, {0, GREATEST, 1}, {GREATEST, GREATEST, GREATEST}, {GREATEST, 0, 0}, {0, GREATEST, 0},
            {LEAST, 0, 1}, {0, LEAST, 1}, {0, 0, LEAST}, {LEAST, LEAST, LEAST}, {3, 60, -1}, {LEAST, 0, GREATEST}};
        for (int[] w : wrong) {
            Country.FULL.finds("copy(3, " + w[0] + ", 2, " + w[1] + ", " + w[2] + ")",
                    x -> x.copy(3, w[0], 2, w[1], w[2]), INDEX);
            Country.FULL.finds("copy(2, " + w[1] + ", 3, " + w[0] + ", " + w[2] + ")",
                    x -> x.copy(2, w[1], 3, w[0], w[2]), INDEX);
        }
        int[][] well = {{0, 0, 3}, {1, 58, 2}, {2, 59, 1}, {3, 60, 0}, {0, 57, 3}, {0, 60, 0}, {3, 0, 0}};
        for (int[] w : well) {
            Due.is("copy(3, " + w[0] + ", 2, " + w[1] + ", " + w[2] + ")",
                    Country.FULL.make().copy(3, w[0], 2, w[1], w[2]), 1);
            Due.is("copy(2, " + w[1] + ", 3, " + w[0] + ", " + w[2] + ")",
                    Country.FULL.make().copy(2, w[1], 3, w[0], w[2]), 1);
        }
    }

    private static void write() {
        Doc.section("Promise 37: write");
        Doc.says("WOOL on a PERSON behind MONTHS 0 on comes to a SHEET from item 0 on, as many as there are items, "
                + "24 at most: how many");
        for (int form = 0; form <= 2; form++) {
            for (int n : new int[] {0, 1, 2, 23, 24, 25, 60}) {
                ShornSins x = Due.told("h08;h09", "b1l;x1e");
                x.sheet(1, form, n);
                for (int i = 0; i < n; i++) {
                    x.put(1, form, i, 77);
                }
                Due.is("write(1, 1) of " + n, x.write(1, 1), Math.min(24, n));
                for (int i = 0; i < n; i++) {
                    int due = i == 0 ? 9 : i < 23 ? 10 : i == 23 ? 13 : 77;
                    Due.is("item " + i + " of " + n, x.get(1, form, i), due);
                }
                Due.is("count(8)", x.count(8), 0);
            }
        }
        int[] due = {-67, 189, 189};
        for (int form = 0; form <= 2; form++) {
            ShornSins x = Due.told("c09", "a0m;a0m;a0m;a0m;a0m;a0m;a0m;a0m;a0m;a0m");
            x.sheet(0, form, 1);
            Due.is("write(0, 0) of 189", x.write(0, 0), 1);
            Due.is("as much of 189 as a form has bits for", x.get(0, form, 0), due[form]);
        }
    }

    private static void writeRefused() {
        Doc.says("BAD; NULL");
        Bounds.of("write", (x, a) -> x.write(a[0], a[1])).person().from(0, 3).hold();
        Country.SOME.finds("write(0, 3)", x -> x.write(0, 3), NULL);
        Country.SOME.finds("write(2, 3)", x -> x.write(2, 3), NULL);
        Country.SOME.keeps("write(3, 3)", x -> x.write(3, 3), ShornSins.BAD);
        Country.EMPTY.keeps("write(0, 0), no people", x -> x.write(0, 0), ShornSins.BAD);
    }

    private static void countsAre(Country country, int... due) {
        ShornSins x = country.make();
        for (int what = 0; what <= 8; what++) {
            Due.is(country + ": count(" + what + ")", x.count(what), due[what]);
        }
    }

    private static int livingIn(Country country) {
        ShornSins x = country.make();
        int many = 0;
        for (int p = 0; p < country.people; p++) {
            many += x.dies(p) == ShornSins.NONE ? 1 : 0;
        }
        return many;
    }

    private static void count() {
        Doc.section("Promise 38: count");
        Doc.says("0 PEOPLE, 1 DEEDS, 2, 3 bytes of texts, 4 ROUNDS, 5 JOURNEYS and FROSTS together, 6 who lives behind "
                + "MONTH 23, 7 SEEN, 8 the number of the latest FINDING (0 before any)");
        countsAre(Country.EMPTY, 0, 0, 0, 0, 0, 0, 0, 0, 0);
        countsAre(Country.SOME, 3, 4, 11, 15, 2, 2, 2, 1, 0);
        countsAre(Country.FULL, 8, 10, 31, 39, 8, 14, livingIn(Country.FULL), 8, 0);
        ShornSins x = Due.told("h09;h19", "a0l;a1l");
        x.frost(23);
        x.round(23, 0, 1);
        Due.is("count(6), one dies in month 23", x.count(6), 1);
        x.round(23, 1, 1);
        Due.is("count(6), nobody lives", x.count(6), 0);
        x.type(0, ';');
        x.type(1, ';');
        Due.is("count(0), with a fault", x.count(0), 0);
        Due.is("count(1), with a fault", x.count(1), 0);
        Due.is("count(2), with a fault", x.count(2), 8);
        Due.is("count(3), with a fault", x.count(3), 8);
        Doc.says("BAD");
        Bounds.of("count", (y, a) -> y.count(a[0])).from(0, 8).holdAsking();
    }

    /** h, told number by number without end, and cut to a long where it is asked for. */
    private static final class Sum {
        private BigInteger h = BigInteger.valueOf(17);

        Sum and(long... numbers) {
            for (long number : numbers) {
                h = h.multiply(BigInteger.valueOf(31)).add(BigInteger.valueOf(number));
            }
            return this;
        }

        long asLong() {
            return h.longValue();
        }
    }

    private static long digestOf(ShornSins x) {
        Sum h = new Sum();
        for (int what = 0; what <= 7; what++) {
            h.and(x.count(what));
        }
        h.and(x.fault(0), x.fault(1));
        for (int p = 0; p < x.count(0); p++) {
            h.and(x.person(p, 0), x.person(p, 1), x.person(p, 2));
            for (int month : new int[] {0, 5, 11, 23}) {
                h.and(x.wool(month, p, 0), x.wool(month, p, 1), x.wool(month, p, 2));
            }
            h.and(x.dies(p), x.light(p, 9, -1), x.light(p, 9, 0), x.home(p, 0), x.home(p, 1), x.ask(p));
            h.and(x.virtue(5, 5, p, 0), x.virtue(5, 5, p, 1));
        }
        for (int d = 0; d < x.count(1); d++) {
            h.and(x.deed(d, 0), x.deed(d, 1), x.deed(d, 2), x.was(d, 0), x.was(d, 1));
        }
        for (int c = 0; c <= 3; c++) {
            h.and(x.cloth(11, c, 0), x.cloth(11, c, 1), x.cloth(23, c, 0), x.cloth(23, c, 1));
        }
        h.and(x.thorn(0), x.heaviest(0), x.thorn(11), x.heaviest(11), x.thorn(23), x.heaviest(23));
        h.and(x.tax(0), x.tax(1), x.first(0), x.first(1), x.plan(2, 0), x.plan(2, 1), x.plan(2, 2));
        h.and(x.spare(-1), x.spare(0), x.never(), x.years(7, 9, 0), x.years(7, 9, 1));
        return h.asLong();
    }

    /** So much goes on in months 5, 6, 11, 12, 22 and 23 that one month is not like the next. */
    private static ShornSins busy() {
        ShornSins x = Due.told("h08;h09;f09;h19;f27;c33", "a0l;f5l;l2m;m3t;w1m;x2m;b4e;g1l");
        x.set(1, 9);
        int[][] rounds = {{6, 0, 1}, {5, 1, 1}, {11, 2, 1}, {12, 0, 1}, {12, 1, 1}, {22, 3, 1}, {23, 0, 2}};
        for (int[] r : rounds) {
            x.round(r[0], r[1], r[2]);
        }
        int[][] journeys = {{11, 5, 0}, {12, 4, 1}, {22, 5, 1}, {23, 4, 3}, {10, 0, 2}};
        for (int[] j : journeys) {
            x.journey(j[0], j[1], j[2]);
        }
        x.frost(12);
        x.seen(0, 4, 7);
        return x;
    }

    /** One that has 10 of wool and goes in months 11, 12, 22 and 23, to be shorn of all that it did. */
    private static ShornSins walker() {
        ShornSins x = Due.told("h09", "a0l");
        x.set(0, 0);
        x.journey(11, 0, 1);
        x.journey(12, 0, 0);
        x.journey(22, 0, 1);
        x.journey(23, 0, 0);
        x.round(23, 0, 1);
        return x;
    }

    private static void digest() {
        Doc.section("Promise 39: digest");
        Doc.says("h is 17; h becomes 31 h and each of: count() 0 to 7; of texts fault(); of PEOPLE person() 0 to 2, of MONTHS "
                + "0, 5, 11, 23 wool(the MONTH, it, 0 to 2), then dies(), light(it, 9, NONE and 0), home() 0, 1, ask(), "
                + "virtue(5, 5, it), above, below; of DEEDS deed() 0 to 2, was() 0, 1; of COUNTIES 0 to 3 cloth(11, it, 0 "
                + "and 1), cloth(23, it, 0 and 1); of MONTHS 0, 11, 23 thorn(), heaviest(); tax() 0, 1, first() 0, 1, plan(2, "
                + "0 to 2), spare(NONE), spare(0), never(), years(7, 9, 0 and 1); as longs that wrap");
        for (Country country : Country.values()) {
            country.keeps("digest()", x -> x.digest(), digestOf(country.make()));
        }
        for (int fault = 0; fault <= 3; fault++) {
            ShornSins y = busy();
            if ((fault & 1) != 0) {
                y.type(0, ';');
            }
            if ((fault & 2) != 0) {
                y.type(1, 'f');
            }
            Due.is("digest() of a busy one", y.digest(), digestOf(y));
        }
        ShornSins walker = walker();
        Due.is("digest() of a walker", walker.digest(), digestOf(walker));
        long empty = new Sum().and(0, 0, 0, 0, 0, 0, 0, 0, -1, -1).and(new long[16])
                .and(0, -1, 0, -1, 0, -1, 0, 0, -1, -1, 0, 0, 0, 0, -1, 0, 0, 0).asLong();
        ShornSins x = new ShornSins();
        Due.is("digest() of an empty one, written out", x.digest(), empty);
        x.lose(0);
        Due.is("digest() does not tell findings", x.digest(), empty);
        x.sheet(0, 0, 9);
        Due.is("digest() does not tell sheets", x.digest(), empty);
        x.set(0, 9);
        Due.is("digest() does not tell grace that does nothing", x.digest(), empty);
    }
}
