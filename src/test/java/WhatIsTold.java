/** Sentences about texts, rounds, journeys and frosts, and promises 1 to 13. */
final class WhatIsTold {
    private static final int LEAST = Integer.MIN_VALUE;
    private static final int GREATEST = Integer.MAX_VALUE;
    private static final String EIGHT_PEOPLE = "f00;c19;h25;f33;c04;h18;f22;c31";
    private static final String TEN_DEEDS = "a0l;x7m;c1e;d2t;e3l;f4m;g5e;h6t;i0m;j7l";

    private WhatIsTold() {
    }

    static void hold() {
        Doc.section("What it is");
        peopleText();
        calls();
        Doc.section("Terms");
        deedsText();
        faultPlace();
        faultIsEmpty();
        months();
        graceAndCold();
        rounds();
        journeys();
        frosts();
        allLive();
        promises();
    }

    private static void promises() {
        newObject();
        type();
        wipe();
        undo();
        fault();
        person();
        deed();
        set();
        round();
        journey();
        frost();
        back();
        read();
        readRefused();
    }

    /** Behind `before`, these bytes and no others let a text go on. */
    private static void goesOnWith(int text, String before, String signs) {
        for (int b = 0; b <= 255; b++) {
            ShornSins x = new ShornSins();
            Due.type(x, text, before);
            x.type(text, b);
            int length = before.length() + 1;
            int well = length % 4 == 3 ? ShornSins.NONE : length;
            int due = signs.indexOf((char) b) >= 0 ? well : length - 1;
            Due.is("fault(" + text + ") of " + before + " and byte " + b, x.fault(text), due);
            Due.is("count(" + text + ") of " + before + " and byte " + b, x.count(text),
                    due == ShornSins.NONE ? (length + 1) / 4 : 0);
        }
    }

    private static void lengthIs(int text, String bytes, int most) {
        ShornSins x = new ShornSins();
        for (int n = 1; n <= most; n++) {
            Due.is("type, byte " + n + " of text " + text, x.type(text, bytes.charAt(n - 1)), n);
            Due.is("count of text " + text, x.count(2 + text), n);
            Due.is("things in text " + text, x.count(text), n % 4 == 3 ? (n + 1) / 4 : 0);
        }
        Due.is("a byte beyond the most", x.type(text, ';'), ShornSins.FULL);
        Due.is("a byte beyond the most, again", x.type(text, 0), ShornSins.FULL);
        Due.is("how many bytes", x.count(2 + text), most);
        Due.is("the other text", x.count(3 - text), 0);
    }

    private static void peopleText() {
        Doc.says("PEOPLE are a text of up to 31 bytes (text 0), 8 at most (0 on), with ; between them: f (fine), "
                + "c (coarse) or h (a hogget), a figure 0 to 3, its COUNTY, and a figure, its WOOL at first (0 to 9)");
        lengthIs(0, EIGHT_PEOPLE, 31);
        goesOnWith(0, "", "fch");
        goesOnWith(0, "c", "0123");
        goesOnWith(0, "h3", "0123456789");
        goesOnWith(0, "f39", ";");
        goesOnWith(0, "f39;", "fch");
        goesOnWith(0, "f00;c19;h25;f33;c04;h18;f22;c3", "0123456789");
        ShornSins x = Due.told(EIGHT_PEOPLE, "");
        Due.is("count(0)", x.count(0), 8);
        Due.is("person(-1, 2)", x.person(-1, 2), ShornSins.BAD);
        Due.is("person(0, 2), the first", x.person(0, 2), 0);
        Due.is("person(7, 2), the eighth", x.person(7, 2), 1);
        Due.is("person(8, 2), a ninth", x.person(8, 2), ShornSins.BAD);
        for (int n = 0; n < 4; n++) {
            x.undo(0);
        }
        Due.is("count(0), seven", x.count(0), 7);
        Due.is("person(6, 0) of seven", x.person(6, 0), 0);
        Due.is("person(7, 0) of seven", x.person(7, 0), ShornSins.BAD);
    }

    /** What the 513th answers is free; the 512th is not. */
    private static void calls() {
        Doc.says("An object is used for at most 512 calls after it has been made; what later calls answer is free");
        ShornSins x = new ShornSins();
        int made = 0;
        for (char b : "h09".toCharArray()) {
            made++;
            Due.is("type", x.type(0, b), made);
        }
        while (made < 510) {
            made++;
            Due.is("call " + made, x.set(0, made % 10), made == 4 ? 3 : (made - 1) % 10);
        }
        Due.is("call 511", x.set(0, 9), 0);
        Due.is("call 512", x.wool(0, 0, 0), 8);
        ShornSins y = new ShornSins();
        for (made = 0; made < 511; made++) {
            Due.is("forget()", y.forget(), 0);
        }
        Due.is("digest() as call 512", y.digest(), new ShornSins().digest());
    }

    private static void deedsText() {
        Doc.says("DEEDS are a text of up to 39 bytes (text 1), 10 at most (0 on), with ; between them: a letter a to x, "
                + "the MONTH (0 to 23), a figure 0 to 7, by which PERSON, and l (a lie), e (envy), t (theft) or m (murder)");
        lengthIs(1, TEN_DEEDS, 39);
        goesOnWith(1, "", "abcdefghijklmnopqrstuvwx");
        goesOnWith(1, "x", "01234567");
        goesOnWith(1, "a7", "letm");
        goesOnWith(1, "x7m", ";");
        goesOnWith(1, "x7m;", "abcdefghijklmnopqrstuvwx");
        goesOnWith(1, TEN_DEEDS.substring(0, 38), "letm");
        ShornSins x = Due.told("", TEN_DEEDS);
        Due.is("count(1)", x.count(1), 10);
        Due.is("deed(-1, 0)", x.deed(-1, 0), ShornSins.BAD);
        Due.is("deed(0, 0), the first", x.deed(0, 0), 0);
        Due.is("deed(9, 0), the tenth", x.deed(9, 0), 9);
        Due.is("deed(10, 0), an eleventh", x.deed(10, 0), ShornSins.BAD);
        for (int n = 0; n < 4; n++) {
            x.undo(1);
        }
        Due.is("count(1), nine", x.count(1), 9);
        Due.is("deed(8, 0) of nine", x.deed(8, 0), 8);
        Due.is("deed(9, 0) of nine", x.deed(9, 0), ShornSins.BAD);
    }

    private static void faultIs(int text, String bytes, int place) {
        ShornSins x = new ShornSins();
        Due.type(x, text, bytes);
        Due.is("fault(" + text + ") of " + bytes, x.fault(text), place);
    }

    private static void faultPlace() {
        Doc.says("The FAULT of a text is the place of the first byte with which it cannot go on (an empty one is well; "
                + "of one that is not ended, its end), here also of the first byte of a ninth PERSON, of an eleventh DEED");
        for (int text = 0; text <= 1; text++) {
            String whole = text == 0 ? EIGHT_PEOPLE : TEN_DEEDS;
            faultIs(text, "", ShornSins.NONE);
            for (int n = 1; n <= whole.length(); n++) {
                faultIs(text, whole.substring(0, n), n % 4 == 3 ? ShornSins.NONE : n);
            }
            for (int n = 0; n < whole.length(); n++) {
                faultIs(text, whole.substring(0, n) + "!" + whole.substring(n + 1), n);
                faultIs(text, whole.substring(0, n) + "!", n);
                faultIs(text, whole.substring(0, n) + "!".repeat(whole.length() - n), n);
            }
            ShornSins x = new ShornSins();
            Due.type(x, text, whole);
            Due.is("the ; ahead of one too many has no room", x.type(text, ';'), ShornSins.FULL);
            Due.is("fault(" + text + ") of a full one", x.fault(text), ShornSins.NONE);
        }
    }

    private static void faultIsEmpty() {
        Doc.says("With a FAULT a text is as if it was empty");
        ShornSins x = Due.told("h09;c15", "a0m;b1l");
        x.round(2, 0, 1);
        x.type(0, ';');
        Due.is("no people", x.count(0), 0);
        Due.is("its bytes stay", x.count(2), 8);
        Due.is("nobody lives", x.count(6), 0);
        Due.is("person(0, 0)", x.person(0, 0), ShornSins.BAD);
        Due.is("wool(0, 0, 0)", x.wool(0, 0, 0), ShornSins.BAD);
        Due.is("heaviest(0)", x.heaviest(0), ShornSins.NONE);
        Due.is("first(0)", x.first(0), ShornSins.NONE);
        Due.is("tax(0)", x.tax(0), 0);
        Due.is("plan(1, 2)", x.plan(1, 2), 0);
        Due.is("the deeds stay", x.count(1), 2);
        Due.is("deed(1, 1)", x.deed(1, 1), 1);
        Due.is("was(0, 1), of no people", x.was(0, 1), 0);
        x.undo(0);
        Due.is("well again", x.count(0), 2);
        Due.is("wool(0, 0, 0), well again", x.wool(0, 0, 0), 18);
        x.undo(1);
        Due.is("no deeds", x.count(1), 0);
        Due.is("wool(23, 1, 0), no deeds", x.wool(23, 1, 0), 5);
        Due.is("wool(0, 0, 0), no deeds", x.wool(0, 0, 0), 9);
        Due.is("never()", x.never(), 0);
        Due.is("deed(0, 0)", x.deed(0, 0), ShornSins.BAD);
        x.type(1, 'm');
        Due.is("deeds again", x.wool(23, 1, 0), 5 + 18);
    }

    private static void months() {
        Doc.says("MONTHS are 0 to 23");
        Bounds.of("round", (x, a) -> x.round(a[0], 0, 1)).month().hold();
        Bounds.of("journey", (x, a) -> x.journey(a[0], 0, 1)).month().hold();
        Bounds.of("frost", (x, a) -> x.frost(a[0])).month().hold();
        Bounds.of("seen", (x, a) -> x.seen(a[0], 0, 1)).month().hold();
        Bounds.of("cloth", (x, a) -> x.cloth(a[0], 0, 0)).month().holdAsking();
        Bounds.of("thorn", (x, a) -> x.thorn(a[0])).month().holdAsking();
        ShornSins x = Due.told("h09", "a0l;x0l");
        x.round(0, 0, 1);
        x.round(23, 1, 1);
        x.journey(23, 0, 1);
        Due.is("cloth(0, 0, 0): a deed, a round in month 0", x.cloth(0, 0, 0), 10);
        Due.is("wool(22, 0, 1)", x.wool(22, 0, 1), 0);
        Due.is("wool(23, 0, 1): a journey in month 23", x.wool(23, 0, 1), 1);
        Due.is("thorn(23): what a deed in month 23 left", x.thorn(23), 1);
        ShornSins y = Due.told("h09", "x0e");
        y.round(23, 0, 1);
        y.frost(23);
        Due.is("dies(0): a deed, a round, a frost in month 23", y.dies(0), 23);
        Due.is("cloth(22, 0, 0)", y.cloth(22, 0, 0), 0);
        Due.is("cloth(23, 0, 0)", y.cloth(23, 0, 0), 12);
    }

    private static void graceAndCold() {
        Doc.says("GRACE (0 to 9; 3 at first), COLD (0 to 30; 10 at first)");
        Bounds.of("set", (x, a) -> x.set(0, a[0])).from(0, 9).hold();
        Bounds.of("set", (x, a) -> x.set(1, a[0])).from(0, 30).hold();
        Due.is("GRACE at first", new ShornSins().set(0, 0), 3);
        Due.is("COLD at first", new ShornSins().set(1, 0), 10);
        ShornSins x = Due.told("h03;h04", "");
        Due.is("3 of wool at first", x.wool(0, 0, 0), 2);
        Due.is("4 of wool at first", x.wool(0, 1, 0), 4);
        ShornSins y = Due.told("h09;h18", "a0l;a1l");
        y.round(0, 0, 1);
        y.round(0, 1, 1);
        y.frost(0);
        Due.is("shorn of 10 at first", y.dies(0), 0);
        Due.is("shorn of 9 at first", y.dies(1), ShornSins.NONE);
    }

    private static void rounds() {
        Doc.says("ROUNDS, 8 at most (0 on): in a MONTH in a COUNTY at a PACE (1 to 4)");
        ShornSins x = Due.told("h09;h19", "");
        x.set(1, 0);
        x.frost(3);
        Due.is("the first", x.round(3, 0, 1), 1);
        Due.is("spare(0): the first is 0", x.spare(0), 0);
        for (int n = 2; n <= 7; n++) {
            Due.is("round " + n, x.round(4, 3, 4), n);
        }
        Due.is("the eighth", x.round(3, 1, 1), 8);
        Due.is("a ninth", x.round(5, 0, 1), ShornSins.FULL);
        Due.is("count(4)", x.count(4), 8);
        Due.is("spare(1): the eighth is 7", x.spare(1), 7);
        x.back(0);
        Due.is("one back, one more", x.round(3, 1, 1), 8);
        Due.is("and no more", x.round(3, 1, 1), ShornSins.FULL);
        for (int pace = 1; pace <= 4; pace++) {
            ShornSins y = Due.told("h39;h39;h39;h39;h39", "");
            y.round(0, 3, pace);
            Due.is("cloth at pace " + pace, y.cloth(0, 3, 0), 9 * pace);
        }
        for (int county = 0; county <= 3; county++) {
            ShornSins y = Due.told("h09;h19;h29;h39", "");
            y.round(0, county, 4);
            for (int p = 0; p <= 3; p++) {
                Due.is("shorn in county " + county, y.wool(0, p, 2), p == county ? 1 : 0);
            }
        }
        Bounds.of("round", (y, a) -> y.round(0, a[0], 1)).county().hold();
        Bounds.of("round", (y, a) -> y.round(0, 0, a[0])).from(1, 4).hold();
    }

    private static void journeys() {
        Doc.says("JOURNEYS, 8 at most (0 on): in a MONTH a PERSON (0 to 7) goes to a COUNTY");
        ShornSins x = Due.told("h09;h09;h09;h09;h09;h09;h09;h09", "");
        for (int n = 1; n <= 8; n++) {
            Due.is("journey " + n, x.journey(n, n - 1, 1 + n % 3), n);
        }
        Due.is("a ninth", x.journey(0, 0, 1), ShornSins.FULL);
        Due.is("count(5)", x.count(5), 8);
        for (int p = 0; p <= 7; p++) {
            Due.is("person " + p + " ahead of it", x.wool(p, p, 1), 0);
            Due.is("person " + p + " behind it", x.wool(p + 1, p, 1), 1 + (p + 1) % 3);
            Due.is("thorn(" + (p + 1) + ")", x.thorn(p + 1), 2 * (p + 1));
        }
        x.back(1);
        Due.is("one back, one more", x.journey(23, 7, 3), 8);
        Due.is("and no more", x.journey(23, 7, 3), ShornSins.FULL);
        Bounds.of("journey", (y, a) -> y.journey(0, a[0], 0)).from(0, 7).hold();
        Bounds.of("journey", (y, a) -> y.journey(0, 0, a[0])).county().hold();
        ShornSins y = Due.told("h09", "");
        Due.is("of one that there is not", y.journey(0, 1, 3), 1);
        Due.is("of one that there is not", y.journey(0, 7, 3), 2);
        Due.is("catches nothing", y.thorn(23), 0);
    }

    private static void frosts() {
        Doc.says("FROSTS, 6 at most (0 on): MONTHS");
        ShornSins x = Due.told("h09;h19;h29;h39;h09;h19;h29", "");
        x.set(1, 0);
        for (int month = 1; month <= 7; month++) {
            x.round(month, (month - 1) % 4, 1);
        }
        for (int n = 1; n <= 6; n++) {
            Due.is("frost " + n, x.frost(n), n);
        }
        Due.is("a seventh", x.frost(7), ShornSins.FULL);
        Due.is("count(5)", x.count(5), 6);
        Due.is("the seventh person lives", x.count(6), 1);
        Due.is("dies(6)", x.dies(6), ShornSins.NONE);
        Due.is("dies(0): the first frost", x.dies(0), 1);
        Due.is("dies(5): the sixth frost", x.dies(5), 6);
        x.back(2);
        Due.is("dies(5): one back", x.dies(5), ShornSins.NONE);
        Due.is("one more", x.frost(7), 6);
        Due.is("dies(6): one more", x.dies(6), 7);
        Due.is("and no more", x.frost(6), ShornSins.FULL);
    }

    private static void allLive() {
        Doc.says("All live at first");
        ShornSins x = Due.told("h00;c00;f00;h09;c19;f29;h39;h00", "");
        Due.is("count(6)", x.count(6), 8);
        for (int p = 0; p <= 7; p++) {
            Due.is("dies(" + p + ")", x.dies(p), ShornSins.NONE);
        }
        x.set(1, 0);
        x.frost(0);
        x.round(0, 3, 1);
        Due.is("count(6), one shorn in month 0", x.count(6), 7);
        Due.is("dies(6): lived, to be shorn in month 0", x.dies(6), 0);
    }

    private static void newObject() {
        Doc.section("Promise 1: A new object");
        Doc.says("No PEOPLE, no DEEDS; all SHEETS are LOST");
        ShornSins told = Country.FULL.make();
        ShornSins x = new ShornSins();
        for (int what = 0; what <= 8; what++) {
            Due.is("count(" + what + ")", x.count(what), 0);
        }
        Due.is("fault(0)", x.fault(0), ShornSins.NONE);
        Due.is("fault(1)", x.fault(1), ShornSins.NONE);
        Due.is("person(0, 0)", x.person(0, 0), ShornSins.BAD);
        Due.is("deed(0, 0)", x.deed(0, 0), ShornSins.BAD);
        for (int s = 0; s <= 3; s++) {
            Due.is("lose(" + s + ")", x.lose(s), -11);
        }
        Due.is("another object keeps its own", told.count(0), 8);
    }

    private static void type() {
        Doc.section("Promise 2: type");
        Doc.says("A byte (0 to 255) comes behind a text: how many");
        for (int b : new int[] {0, 1, 127, 128, 254, 255}) {
            for (int text = 0; text <= 1; text++) {
                ShornSins x = new ShornSins();
                Due.is("type(" + text + ", " + b + ") of an empty one", x.type(text, b), 1);
                Due.is("type(" + text + ", " + b + ") again", x.type(text, b), 2);
                Due.is("fault(" + text + ")", x.fault(text), 0);
                Due.is("the other text", x.count(3 - text), 0);
            }
        }
        Doc.says("BAD; FULL");
        Bounds.of("type", (x, a) -> x.type(a[0], a[1])).from(0, 1).from(0, 255).hold();
        for (int text = 0; text <= 1; text++) {
            int of = text;
            Country.FULL.keeps("type, full", x -> x.type(of, ';'), ShornSins.FULL);
            Country.FULL.keeps("type, full, of no byte", x -> x.type(of, 256), ShornSins.BAD);
            Country.FULL.keeps("type, full, of no byte", x -> x.type(of, -1), ShornSins.BAD);
        }
    }

    private static void wipe() {
        Doc.section("Promise 3: wipe");
        Doc.says("A text is empty: how many bytes it had");
        for (int text = 0; text <= 1; text++) {
            int most = text == 0 ? 31 : 39;
            for (int n : new int[] {0, 1, 3, most - 1, most}) {
                ShornSins x = Due.told(text == 1 ? "h09" : "", text == 0 ? "a0m" : "");
                Due.type(x, text, (text == 0 ? EIGHT_PEOPLE : TEN_DEEDS).substring(0, n));
                Due.is("wipe(" + text + ") of " + n, x.wipe(text), n);
                Due.is("count, wiped", x.count(2 + text), 0);
                Due.is("things, wiped", x.count(text), 0);
                Due.is("fault, wiped", x.fault(text), ShornSins.NONE);
                Due.is("wipe, empty", x.wipe(text), 0);
                Due.is("the other text", x.count(3 - text), 3);
                Due.is("a byte more", x.type(text, 'c'), 1);
            }
        }
        Doc.says("BAD");
        Bounds.of("wipe", (x, a) -> x.wipe(a[0])).from(0, 1).hold();
    }

    private static void undo() {
        Doc.section("Promise 4: undo");
        Doc.says("The last byte of a text is undone: how many are left");
        for (int text = 0; text <= 1; text++) {
            String whole = text == 0 ? EIGHT_PEOPLE : TEN_DEEDS;
            ShornSins x = new ShornSins();
            Due.type(x, text, whole);
            for (int n = whole.length() - 1; n >= 0; n--) {
                Due.is("undo(" + text + ")", x.undo(text), n);
                Due.is("count", x.count(2 + text), n);
                Due.is("fault", x.fault(text), n == 0 || n % 4 == 3 ? ShornSins.NONE : n);
            }
            Due.is("undo(" + text + "), empty", x.undo(text), ShornSins.NOT);
            Due.is("a byte again", x.type(text, 'c'), 1);
            Due.is("undo(" + text + ") of one", x.undo(text), 0);
        }
        ShornSins x = Due.told("h09", "");
        x.undo(0);
        x.type(0, '8');
        Due.is("another byte in its place", x.person(0, 2), 8);
        Doc.says("BAD; NOT: it is empty");
        Bounds.of("undo", (y, a) -> y.undo(a[0])).from(0, 1).hold();
        Country.EMPTY.keeps("undo(0)", y -> y.undo(0), ShornSins.NOT);
        Country.EMPTY.keeps("undo(1)", y -> y.undo(1), ShornSins.NOT);
        Due.is("undo(1), the other one is not empty", Due.told("h09", "").undo(1), ShornSins.NOT);
        Due.is("undo(0), the other one is not empty", Due.told("", "a0m").undo(0), ShornSins.NOT);
    }

    private static void fault() {
        Doc.section("Promise 5: fault");
        Doc.says("The FAULT of a text; NONE");
        ShornSins x = Due.told("h09", "y0m");
        Due.is("fault(0), none", x.fault(0), ShornSins.NONE);
        Due.is("fault(1), the first byte", x.fault(1), 0);
        x.wipe(1);
        Due.is("fault(1), empty", x.fault(1), ShornSins.NONE);
        Due.type(x, 1, TEN_DEEDS.substring(0, 38) + "x");
        Due.is("fault(1), the last byte", x.fault(1), 38);
        Due.type(x, 0, EIGHT_PEOPLE.substring(3, 30) + "x");
        Due.is("fault(0), the last byte", x.fault(0), 30);
        Doc.says("BAD");
        Bounds.of("fault", (y, a) -> y.fault(a[0])).from(0, 1).holdAsking();
    }

    private static void person() {
        Doc.section("Promise 6: person");
        Doc.says("Of what wool (what = 0: 0 f, 1 c, 2 h), COUNTY at first (1), WOOL at first (2) of a PERSON");
        for (int wool = 0; wool <= 2; wool++) {
            for (int county = 0; county <= 3; county++) {
                for (int much = 0; much <= 9; much++) {
                    String one = "" + "fch".charAt(wool) + county + much;
                    ShornSins x = Due.told("h25;" + one, "a1m");
                    x.round(0, 2, 4);
                    x.journey(1, 0, 0);
                    Due.is("person(1, 0) of " + one, x.person(1, 0), wool);
                    Due.is("person(1, 1) of " + one, x.person(1, 1), county);
                    Due.is("person(1, 2) of " + one, x.person(1, 2), much);
                    Due.is("person(0, 0)", x.person(0, 0), 2);
                    Due.is("person(0, 1), at first", x.person(0, 1), 2);
                    Due.is("person(0, 2), at first", x.person(0, 2), 5);
                }
            }
        }
        Doc.says("BAD");
        Bounds.of("person", (x, a) -> x.person(a[0], a[1])).person().from(0, 2).holdAsking();
    }

    private static void deed() {
        Doc.section("Promise 7: deed");
        Doc.says("The MONTH (what = 0), by whom as told (1), what it is (2: 0 l, 1 e, 2 t, 3 m) of a DEED");
        for (int month = 0; month <= 23; month++) {
            for (int who = 0; who <= 7; who++) {
                for (int kind = 0; kind <= 3; kind++) {
                    String one = "" + (char) ('a' + month) + who + "letm".charAt(kind);
                    ShornSins x = Due.told("", "c1t;" + one);
                    Due.is("deed(1, 0) of " + one, x.deed(1, 0), month);
                    Due.is("deed(1, 1) of " + one + ", as told", x.deed(1, 1), who);
                    Due.is("deed(1, 2) of " + one, x.deed(1, 2), kind);
                    Due.is("deed(0, 0)", x.deed(0, 0), 2);
                }
            }
        }
        Doc.says("BAD");
        Bounds.of("deed", (x, a) -> x.deed(a[0], a[1])).deed().from(0, 2).holdAsking();
    }

    private static void set() {
        Doc.section("Promise 8: set");
        Doc.says("GRACE (what = 0), COLD (1): what it was");
        ShornSins x = new ShornSins();
        int was = 3;
        for (int grace = 0; grace <= 9; grace++) {
            Due.is("set(0, " + grace + ")", x.set(0, grace), was);
            was = grace;
        }
        was = 10;
        for (int cold = 0; cold <= 30; cold++) {
            Due.is("set(1, " + cold + ")", x.set(1, cold), was);
            was = cold;
        }
        Due.is("set(0, 9) of the same", x.set(0, 9), 9);
        Due.is("set(1, 30) of the same", x.set(1, 30), 30);
        Doc.says("BAD");
        Bounds.of("set", (y, a) -> y.set(a[0], a[1])).from(0, 1).from(0, 9).hold();
        Bounds.of("set", (y, a) -> y.set(1, a[0])).from(0, 30).hold();
    }

    private static void round() {
        Doc.section("Promise 9: round");
        Doc.says("A ROUND more: how many");
        ShornSins x = new ShornSins();
        for (int n = 1; n <= 8; n++) {
            Due.is("round " + n, x.round(23, 3, 4), n);
            Due.is("count(4)", x.count(4), n);
        }
        Due.is("count(5)", x.count(5), 0);
        Doc.says("BAD; FULL");
        Bounds.of("round", (y, a) -> y.round(a[0], a[1], a[2])).month().county().from(1, 4).hold();
        Country.FULL.keeps("round(0, 0, 1)", y -> y.round(0, 0, 1), ShornSins.FULL);
        Country.FULL.keeps("round(23, 3, 4)", y -> y.round(23, 3, 4), ShornSins.FULL);
        Country.FULL.keeps("round(24, 0, 1)", y -> y.round(24, 0, 1), ShornSins.BAD);
        Country.FULL.keeps("round(0, 4, 1)", y -> y.round(0, 4, 1), ShornSins.BAD);
        Country.FULL.keeps("round(0, 0, 0)", y -> y.round(0, 0, 0), ShornSins.BAD);
    }

    private static void journey() {
        Doc.section("Promise 10: journey");
        Doc.says("A JOURNEY more: how many");
        ShornSins x = new ShornSins();
        x.frost(0);
        for (int n = 1; n <= 8; n++) {
            Due.is("journey " + n, x.journey(23, 7, 3), n);
            Due.is("count(5)", x.count(5), n + 1);
        }
        Due.is("count(4)", x.count(4), 0);
        Doc.says("BAD; FULL");
        Bounds.of("journey", (y, a) -> y.journey(a[0], a[1], a[2])).month().from(0, 7).county().hold();
        Country.FULL.keeps("journey(0, 0, 0)", y -> y.journey(0, 0, 0), ShornSins.FULL);
        Country.FULL.keeps("journey(23, 7, 3)", y -> y.journey(23, 7, 3), ShornSins.FULL);
        Country.FULL.keeps("journey(24, 0, 0)", y -> y.journey(24, 0, 0), ShornSins.BAD);
        Country.FULL.keeps("journey(0, 8, 0)", y -> y.journey(0, 8, 0), ShornSins.BAD);
        Country.FULL.keeps("journey(0, 0, 4)", y -> y.journey(0, 0, 4), ShornSins.BAD);
    }

    private static void frost() {
        Doc.section("Promise 11: frost");
        Doc.says("A FROST more: how many");
        ShornSins x = new ShornSins();
        x.journey(0, 0, 0);
        for (int n = 1; n <= 6; n++) {
            Due.is("frost " + n + ", of the same month", x.frost(23), n);
            Due.is("count(5)", x.count(5), n + 1);
        }
        Doc.says("BAD; FULL");
        Bounds.of("frost", (y, a) -> y.frost(a[0])).month().hold();
        Country.FULL.keeps("frost(0)", y -> y.frost(0), ShornSins.FULL);
        Country.FULL.keeps("frost(23)", y -> y.frost(23), ShornSins.FULL);
        Country.FULL.keeps("frost(24)", y -> y.frost(24), ShornSins.BAD);
        Country.FULL.keeps("frost(-1)", y -> y.frost(-1), ShornSins.BAD);
    }

    private static void back() {
        Doc.section("Promise 12: back");
        Doc.says("The last ROUND (what = 0), JOURNEY (1), FROST (2) is undone: how many are left");
        ShornSins x = Country.FULL.make();
        for (int n = 7; n >= 0; n--) {
            Due.is("back(0)", x.back(0), n);
            Due.is("count(4)", x.count(4), n);
            Due.is("count(5) stays", x.count(5), 14);
        }
        for (int n = 7; n >= 0; n--) {
            Due.is("back(1)", x.back(1), n);
            Due.is("count(5)", x.count(5), n + 6);
        }
        for (int n = 5; n >= 0; n--) {
            Due.is("back(2)", x.back(2), n);
            Due.is("count(5)", x.count(5), n);
        }
        theLastIsUndone();
        Doc.says("BAD; NOT: there is none");
        Bounds.of("back", (y, a) -> y.back(a[0])).from(0, 2).hold();
        for (int what = 0; what <= 2; what++) {
            int of = what;
            Country.EMPTY.keeps("back(" + what + ")", y -> y.back(of), ShornSins.NOT);
            Due.is("back(" + what + "), none any more", x.back(what), ShornSins.NOT);
        }
    }

    /** The first of each stays, and the last is the one that goes. */
    private static void theLastIsUndone() {
        ShornSins x = Due.told("h09;h19", "");
        x.set(1, 0);
        x.round(1, 0, 1);
        x.round(2, 1, 1);
        x.journey(0, 0, 2);
        x.journey(3, 1, 3);
        x.frost(1);
        x.frost(2);
        Due.is("dies(1)", x.dies(1), 2);
        x.back(2);
        Due.is("dies(1), its frost undone", x.dies(1), ShornSins.NONE);
        Due.is("shorn still", x.wool(2, 1, 2), 1);
        x.back(0);
        Due.is("shorn no more", x.wool(2, 1, 2), 0);
        Due.is("goes still", x.wool(3, 1, 1), 3);
        x.back(1);
        Due.is("goes no more", x.wool(3, 1, 1), 1);
        Due.is("the other one went", x.wool(0, 0, 1), 2);
        x.back(1);
        Due.is("nor did the other one", x.wool(0, 0, 1), 0);
        Due.is("the first round and frost stay", x.dies(0), 1);
    }

    /** A sheet of so many rounds in month 0, county 0, at pace 1. */
    private static int[] rounds(int many, int more) {
        int[] items = new int[3 * many + more];
        for (int i = 2; i < items.length; i += 3) {
            items[i] = 1;
        }
        return items;
    }

    private static void readIs(int told, int form, int[] items, int due) {
        ShornSins x = new ShornSins();
        for (int i = 0; i < told; i++) {
            x.round(1, 1, 1);
        }
        Country.fill(x, 1, form, items);
        Due.is("read(1) of " + items.length + " items behind " + told, x.read(1), due);
        Due.is("count(4)", x.count(4), told + due);
        Due.is("count(8)", x.count(8), 0);
        for (int i = 0; i < items.length; i++) {
            Due.is("the sheet stays", x.get(1, form, i), items[i]);
        }
    }

    private static void read() {
        Doc.section("Promise 13: read");
        Doc.says("ROUNDS from a SHEET: its items, three for each, as many as are whole, as long as each may be: how many");
        int[] whole = {0, 0, 0, 1, 1, 1, 2, 2, 2};
        for (int n = 0; n < whole.length; n++) {
            readIs(0, n % 3, rounds(n / 3, n % 3), whole[n]);
        }
        readIs(0, 0, rounds(7, 2), 7);
        readIs(0, 1, rounds(8, 0), 8);
        readIs(0, 2, rounds(8, 2), 8);
        readIs(0, 0, rounds(9, 0), 8);
        readIs(0, 1, rounds(20, 0), 8);
        readIs(5, 2, rounds(3, 0), 3);
        readIs(6, 2, rounds(3, 0), 2);
        readIs(7, 2, rounds(3, 0), 1);
        readIs(8, 2, rounds(3, 0), 0);
        int[][] may = {{0, 0, 1}, {23, 3, 4}, {22, 2, 3}, {1, 1, 2}};
        for (int[] m : may) {
            readIs(0, 0, new int[] {0, 0, 1, m[0], m[1], m[2], 0, 0, 1}, 3);
        }
        int[][] mayNot = {{-1, 0, 1}, {24, 0, 1}, {0, -1, 1}, {0, 4, 1}, {0, 0, 0}, {0, 0, 5}, {0, 0, -1},
            {LEAST, 0, 1}, {GREATEST, 0, 1}, {0, LEAST, 1}, {0, GREATEST, 1}, {0, 0, LEAST + 1}, {0, 0, GREATEST}};
        for (int[] m : mayNot) {
            readIs(0, 2, new int[] {m[0], m[1], m[2], 0, 0, 1}, 0);
            readIs(0, 2, new int[] {0, 0, 1, m[0], m[1], m[2], 0, 0, 1}, 1);
            readIs(8, 2, new int[] {m[0], m[1], m[2], 0, 0, 1}, 0);
        }
        ShornSins x = Due.told("h09;h39", "");
        x.round(5, 3, 1);
        Country.fill(x, 0, 1, 4, 0, 2);
        Due.is("read(0)", x.read(0), 1);
        Due.is("a round of its own, in month 4, county 0", x.cloth(4, 0, 0), 9);
        Due.is("the one told ahead of it stays", x.cloth(5, 3, 0), 9);
        Due.is("read(0) again", x.read(0), 1);
        Due.is("count(4)", x.count(4), 3);
        x.back(0);
        Due.is("one that was read is undone", x.count(4), 2);
    }

    private static void readRefused() {
        Doc.says("BAD; NULL");
        Bounds.of("read", (x, a) -> x.read(a[0])).from(0, 3).hold();
        for (int s = 0; s <= 3; s++) {
            int of = s;
            Country.EMPTY.finds("read(" + s + ")", x -> x.read(of), 1);
        }
        Country.SOME.finds("read(3)", x -> x.read(3), 1);
        ShornSins x = Country.SOME.make();
        x.lose(0);
        Due.is("read(0), lost again", x.read(0), -11);
    }
}
