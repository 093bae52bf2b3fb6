/** Sentences about what had better be, and promises 21 to 24. */
final class WhatIsPlanned {
    private static final int NONE = ShornSins.NONE;

    private WhatIsPlanned() {
    }

    static void hold() {
        Doc.section("Terms");
        round();
        roundWhateverRoom();
        roundInFrost();
        light();
        lightRows();
        lightByOthers();
        spare();
        spareRows();
        home();
        homeAndOthers();
        promises();
    }

    private static void promises() {
        promisePlan();
        promiseLight();
        promiseSpare();
        promiseHome();
    }

    private static void planIs(ShornSins x, int pace, int month, int county, int much) {
        Due.is("plan(" + pace + ", 0)", x.plan(pace, 0), month);
        Due.is("plan(" + pace + ", 1)", x.plan(pace, 1), county);
        Due.is("plan(" + pace + ", 2)", x.plan(pace, 2), much);
    }

    private static void round() {
        Doc.says("ROUND for a PACE (1 to 4): the MONTH and the COUNTY of a ROUND more, behind all others (whatever room), "
                + "by which the WORTH of all CLOTH is greatest behind MONTH 23, of like ones the least MONTH, then the least "
                + "COUNTY: the MONTH; the COUNTY; how much");
        for (int pace = 1; pace <= 4; pace++) {
            planIs(new ShornSins(), pace, 0, 0, 0);
            planIs(Due.told("f35;f35;f35;f35;f35", ""), pace, 0, 3, 15 * pace);
            planIs(Due.told("h25", ""), pace, 0, 2, 10);
        }
        planIs(Due.told("c29;c19;f03", "a2l"), 1, 0, 0, 12);
        planIs(Due.told("c29;c19", ""), 1, 0, 1, 9);
        planIs(Due.told("c29;f13", "a1e"), 1, 0, 1, 15);
        planIs(Due.told("c35", "x0m"), 1, 23, 3, 23);
        planIs(Due.told("c35", "w0m"), 1, 22, 3, 23);
        planIs(Due.told("h03", ""), 1, 0, 0, 4);
        planIs(Due.told("h00", ""), 4, 0, 0, 0);
        ShornSins goes = Due.told("f05", "");
        goes.journey(0, 0, 1);
        planIs(goes, 1, 0, 1, 9);
        goes.back(1);
        goes.journey(1, 0, 1);
        planIs(goes, 1, 0, 0, 15);
    }

    private static void roundWhateverRoom() {
        ShornSins x = Due.told("f05;c25;c27", "f0m;h1t");
        x.round(6, 0, 1);
        planIs(x, 2, 7, 2, 30 + 20);
        for (int n = 2; n <= 8; n++) {
            Due.is("round " + n, x.round(0, 3, 1), n);
            planIs(x, 2, 7, 2, 50);
        }
        planIs(x, 1, 7, 2, 30 + 13);
        Due.is("no room is taken", x.count(4), 8);
        Due.is("nor is there any", x.round(7, 2, 2), ShornSins.FULL);
        ShornSins behind = Due.told("f05;f04;f15", "");
        behind.round(3, 0, 1);
        planIs(behind, 1, 0, 1, 15 + 15);
        behind.round(3, 1, 1);
        planIs(behind, 1, 0, 0, 15 + 12 + 15);
    }

    /** Shorn in the frost one brings nothing later: a round where nobody is does better. */
    private static void roundInFrost() {
        ShornSins x = Due.told("h09", "a0l;d0m");
        x.round(5, 0, 1);
        x.frost(0);
        planIs(x, 1, 0, 1, 38);
        x.set(1, 11);
        planIs(x, 1, 0, 0, 38);
        ShornSins moults = Due.told("h09", "");
        moults.set(0, 9);
        planIs(moults, 1, 0, 0, 16);
    }

    private static void lightIs(ShornSins x, int person, int most, int many, int a, int b) {
        String call = "light(" + person + ", " + most + ", ";
        Due.is(call + "NONE)", x.light(person, most, NONE), many);
        Due.is(call + "0)", x.light(person, most, 0), a);
        Due.is(call + "1)", x.light(person, most, 1), b);
    }

    private static void light() {
        Doc.says("LIGHT for a PERSON: the fewest DEEDS (0 to 2) that had better not be done, so that it never has more WOOL "
                + "behind any MONTH than a told number (0 to 99), of like ones the least row (each more than the one "
                + "ahead): how many; the i-th; NONE");
        ShornSins none = Due.told("h05", "");
        lightIs(none, 0, 6, 0, NONE, NONE);
        lightIs(none, 0, 5, 0, NONE, NONE);
        lightIs(none, 0, 4, NONE, NONE, NONE);
        lightIs(none, 0, 0, NONE, NONE, NONE);
        lightIs(Due.told("h00", ""), 0, 0, 0, NONE, NONE);
        ShornSins x = Due.told("f00;h09", "a1l;a0m;b0m;c0m");
        x.set(0, 0);
        lightIs(x, 0, 15, 0, NONE, NONE);
        lightIs(x, 0, 14, 1, 1, NONE);
        lightIs(x, 0, 10, 1, 1, NONE);
        lightIs(x, 0, 9, 2, 1, 2);
        lightIs(x, 0, 5, 2, 1, 2);
        lightIs(x, 0, 4, NONE, NONE, NONE);
        lightIs(x, 0, 0, NONE, NONE, NONE);
        lightIs(x, 1, 10, 0, NONE, NONE);
        lightIs(x, 1, 9, 1, 0, NONE);
        lightIs(x, 1, 8, NONE, NONE, NONE);
        ShornSins heavy = Due.told("h09", "a0m;b0m;c0m;d0m;e0m;f0m;g0m;h0m;i0m;j0m");
        lightIs(heavy, 0, 99, 0, NONE, NONE);
        lightIs(heavy, 0, 98, 1, 0, NONE);
        lightIs(heavy, 0, 90, 1, 0, NONE);
        lightIs(heavy, 0, 89, 2, 0, 1);
        lightIs(heavy, 0, 81, 2, 0, 1);
        lightIs(heavy, 0, 80, NONE, NONE, NONE);
        ShornSins over = Due.told("c09", "a0m;b0m;c0m;d0m;e0m;f0l");
        lightIs(over, 0, 99, 1, 0, NONE);
    }

    /** The rows in their order: of one the last deed, of two the last pair. */
    private static void lightRows() {
        ShornSins last = Due.told("h00", "a7l;a7l;a7l;a7l;a7l;a7l;a7l;a7l;a7l;a0m");
        lightIs(last, 0, 8, 1, 9, NONE);
        ShornSins pair = Due.told("h00", "a7l;a7l;a7l;a7l;a7l;a7l;a7l;a7l;a0m;a0m");
        lightIs(pair, 0, 9, 1, 8, NONE);
        lightIs(pair, 0, 8, 2, 8, 9);
        ShornSins ends = Due.told("h00", "a0m;a7l;a7l;a7l;a7l;a7l;a7l;a7l;a7l;a0m");
        lightIs(ends, 0, 8, 2, 0, 9);
        ShornSins three = Due.told("h00", "a0m;a0m;a0m");
        lightIs(three, 0, 9, 2, 0, 1);
        lightIs(three, 0, 8, NONE, NONE, NONE);
        ShornSins two = Due.told("h00", "a0m;a0m");
        lightIs(two, 0, 0, 2, 0, 1);
        ShornSins one = Due.told("h00", "a0m");
        lightIs(one, 0, 0, 1, 0, NONE);
        lightIs(Due.told("h01", "a0m"), 0, 0, 1, 0, NONE);
        lightIs(Due.told("h02", "a0m"), 0, 0, NONE, NONE, NONE);
    }

    private static void lightByOthers() {
        ShornSins x = Due.told("h05;h04", "a1m");
        x.round(0, 0, 1);
        lightIs(x, 0, 5, 0, NONE, NONE);
        lightIs(x, 0, 4, 1, 0, NONE);
        ShornSins shorn = Due.told("h00", "a0m;x0m");
        lightIs(shorn, 0, 9, 1, 0, NONE);
        shorn.round(0, 0, 1);
        lightIs(shorn, 0, 9, 0, NONE, NONE);
        lightIs(shorn, 0, 8, 1, 1, NONE);
        lightIs(shorn, 0, 0, 1, 1, NONE);
        ShornSins moults = Due.told("h04", "");
        lightIs(moults, 0, 3, NONE, NONE, NONE);
        moults.set(0, 4);
        lightIs(moults, 0, 3, 0, NONE, NONE);
        lightIs(moults, 0, 2, NONE, NONE, NONE);
    }

    private static void spareIs(ShornSins x, int many, int a, int b) {
        Due.is("spare(NONE)", x.spare(NONE), many);
        Due.is("spare(0)", x.spare(0), a);
        Due.is("spare(1)", x.spare(1), b);
    }

    private static void spare() {
        Doc.says("SPARE: the fewest ROUNDS (0 to 2) that had better not be made, so that nobody DIES, likewise");
        spareIs(new ShornSins(), 0, NONE, NONE);
        ShornSins x = Due.told("h09;h19;h29;h39", "");
        x.set(1, 9);
        x.frost(5);
        spareIs(x, 0, NONE, NONE);
        x.round(4, 0, 1);
        spareIs(x, 0, NONE, NONE);
        x.round(5, 1, 1);
        spareIs(x, 1, 1, NONE);
        x.round(6, 3, 1);
        spareIs(x, 1, 1, NONE);
        x.round(5, 2, 1);
        spareIs(x, 2, 1, 3);
        x.round(5, 3, 1);
        spareIs(x, NONE, NONE, NONE);
        x.back(0);
        spareIs(x, 2, 1, 3);
        Due.is("the rounds stay", x.count(4), 4);
    }

    private static void spareRows() {
        ShornSins one = Due.told("h09", "");
        one.set(1, 9);
        one.frost(0);
        one.round(0, 0, 1);
        spareIs(one, 1, 0, NONE);
        one.round(0, 0, 1);
        spareIs(one, 2, 0, 1);
        one.round(0, 0, 1);
        spareIs(one, NONE, NONE, NONE);
        ShornSins ends = Due.told("h09;h19", "");
        ends.set(1, 9);
        ends.frost(3);
        ends.round(3, 0, 1);
        for (int n = 2; n <= 7; n++) {
            ends.round(4, 3, 1);
        }
        ends.round(3, 1, 1);
        spareIs(ends, 2, 0, 7);
        ends.back(0);
        spareIs(ends, 1, 0, NONE);
        ShornSins last = Due.told("h09;h19", "");
        last.set(1, 9);
        last.frost(3);
        for (int n = 1; n <= 6; n++) {
            last.round(4, 3, 1);
        }
        last.round(3, 0, 1);
        spareIs(last, 1, 6, NONE);
        last.round(3, 1, 1);
        spareIs(last, 2, 6, 7);
        ShornSins light = Due.told("h09", "c0l");
        light.set(1, 9);
        light.round(1, 0, 1);
        light.round(2, 0, 1);
        light.frost(2);
        spareIs(light, 0, NONE, NONE);
        light.set(1, 1);
        spareIs(light, 1, 1, NONE);
        for (int month = 0; month <= 23; month++) {
            ShornSins x = Due.told("h09", "");
            x.set(1, 9);
            x.round(month, 0, 1);
            x.frost(month);
            spareIs(x, 1, 0, NONE);
            x.set(0, 9);
            spareIs(x, 0, NONE, NONE);
        }
    }

    private static void homeIs(ShornSins x, int person, int county, int much) {
        Due.is("home(" + person + ", 0)", x.home(person, 0), county);
        Due.is("home(" + person + ", 1)", x.home(person, 1), much);
    }

    private static void home() {
        Doc.says("HOME of a PERSON: the COUNTY (0 to 3), in place of its own, by which it was SHORN of most in all, "
                + "of like ones the least: which; how much");
        for (int own = 0; own <= 3; own++) {
            ShornSins x = Due.told("f" + own + "5", "d0m");
            homeIs(x, 0, 0, 0);
            for (int county = 3; county >= 0; county--) {
                x.round(1, county, 1);
                homeIs(x, 0, county, 5);
            }
            x.round(6, 2, 1);
            homeIs(x, 0, 2, 5 + 5);
            x.round(7, 3, 1);
            homeIs(x, 0, 2, 10);
            Due.is("its own stays", x.person(0, 1), own);
            Due.is("it is there", x.wool(23, 0, 1), own);
        }
    }

    private static void homeAndOthers() {
        ShornSins x = Due.told("f05;h19", "");
        x.round(2, 0, 1);
        x.round(3, 1, 1);
        homeIs(x, 0, 0, 5);
        homeIs(x, 1, 0, 9);
        ShornSins crowd = Due.told("h05;h06;h36", "");
        crowd.round(2, 0, 1);
        crowd.round(2, 3, 2);
        homeIs(crowd, 0, 3, 5);
        ShornSins goes = Due.told("h09;h19", "");
        goes.journey(0, 1, 3);
        goes.round(9, 3, 4);
        homeIs(goes, 1, 3, 9);
        homeIs(goes, 0, 3, 9);
        ShornSins dies = Due.told("h09", "a0l;c0m");
        dies.round(1, 0, 1);
        dies.round(3, 0, 1);
        dies.round(3, 1, 1);
        dies.frost(1);
        homeIs(dies, 0, 1, 19);
        for (int month = 0; month <= 23; month++) {
            ShornSins y = Due.told("h09", "");
            y.round(month, 2, 1);
            homeIs(y, 0, 2, 9);
            y.set(0, 9);
            homeIs(y, 0, month < 8 ? 2 : 0, Math.max(0, 8 - month));
        }
    }

    private static void promisePlan() {
        Doc.section("Promise 21: plan");
        Doc.says("ROUND: the MONTH (what = 0), the COUNTY (1), how much (2)");
        planIs(Due.told("c35", "x0m"), 4, 23, 3, 23);
        planIs(new ShornSins(), 1, 0, 0, 0);
        ShornSins x = Due.told("f09;f09", "");
        planIs(x, 1, 0, 0, 27);
        planIs(x, 2, 0, 0, 54);
        planIs(x, 1, 0, 0, 27);
        Doc.says("BAD");
        Bounds.of("plan", (y, a) -> y.plan(a[0], a[1])).from(1, 4).from(0, 2).holdAsking();
    }

    private static void promiseLight() {
        Doc.section("Promise 22: light");
        Doc.says("LIGHT: how many (i = NONE), the i-th (0, 1; NONE); NONE");
        ShornSins x = Due.told("h09;h09", "a0l;a1m;a1m");
        lightIs(x, 0, 10, 0, NONE, NONE);
        lightIs(x, 0, 9, 1, 0, NONE);
        lightIs(x, 0, 8, NONE, NONE, NONE);
        lightIs(x, 1, 9, 2, 1, 2);
        Doc.says("BAD");
        Bounds.of("light", (y, a) -> y.light(a[0], a[1], a[2])).person().from(0, 99).from(NONE, 1).holdAsking();
    }

    private static void promiseSpare() {
        Doc.section("Promise 23: spare");
        Doc.says("SPARE: how many (i = NONE), the i-th (0, 1; NONE); NONE");
        spareIs(Country.EMPTY.make(), 0, NONE, NONE);
        ShornSins x = Due.told("h09", "");
        x.set(1, 0);
        x.frost(7);
        int[][] due = {{1, 0, NONE}, {2, 0, 1}, {NONE, NONE, NONE}};
        for (int[] d : due) {
            x.round(7, 0, 1);
            spareIs(x, d[0], d[1], d[2]);
        }
        Doc.says("BAD");
        Bounds.of("spare", (y, a) -> y.spare(a[0])).from(NONE, 1).holdAsking();
    }

    private static void promiseHome() {
        Doc.section("Promise 24: home");
        Doc.says("HOME: which (what = 0), how much (1)");
        ShornSins x = Due.told("h09;h18", "");
        x.round(0, 3, 1);
        homeIs(x, 0, 3, 9);
        homeIs(x, 1, 3, 8);
        homeIs(x, 0, 3, 9);
        Doc.says("BAD");
        Bounds.of("home", (y, a) -> y.home(a[0], a[1])).person().from(0, 1).holdAsking();
    }
}
