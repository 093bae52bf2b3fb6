/** Sentences about the months as they go by, and promises 14 to 20. */
final class WhatGoesBy {
    private WhatGoesBy() {
    }

    static void hold() {
        Doc.section("Terms");
        deeds();
        deedsOfTheDead();
        moulting();
        journeys();
        rounds();
        roundsAsTold();
        frosts();
        worth();
        tax();
        behindAMonth();
        dying();
        cloth();
        thorn();
        bothTaxes();
        heaviest();
        first();
        promises();
    }

    private static void promises() {
        promiseWool();
        promiseDies();
        promiseCloth();
        promiseThorn();
        promiseTax();
        promiseHeaviest();
        promiseFirst();
    }

    private static void deeds() {
        Doc.says("In each MONTH first DEEDS of it, as told, each by a PERSON that lives: WOOL on it is more by what "
                + "that WEIGHS (a lie 1, envy 3, theft 4, murder 9) on a hogget; by half of that (cut), and 1, on a fine "
                + "one; by twice that on a coarse one");
        int[][] due = {{1, 2, 3, 5}, {2, 6, 8, 18}, {1, 3, 4, 9}};
        for (int wool = 0; wool < 3; wool++) {
            for (int kind = 0; kind < 4; kind++) {
                ShornSins x = Due.told("fch".charAt(wool) + "09", "b0" + "letm".charAt(kind));
                Due.is("the month before", x.wool(0, 0, 0), 9);
                Due.is("more on " + wool + " by " + kind, x.wool(1, 0, 0), 9 + due[wool][kind]);
                Due.is("no more in month 23", x.wool(23, 0, 0), 9 + due[wool][kind]);
            }
        }
        ShornSins all = Due.told("c09", "a0m;a0m;a0m;a0m;a0m;a0m;a0m;a0m;a0m;a0m");
        Due.is("ten murders in a month", all.wool(0, 0, 0), 9 + 10 * 18);
        ShornSins order = Due.told("h00;h09", "x0l;a0m;m0e;a1t");
        Due.is("months, not the order told: 0", order.wool(0, 0, 0), 9);
        Due.is("months, not the order told: 12", order.wool(12, 0, 0), 12);
        Due.is("months, not the order told: 23", order.wool(23, 0, 0), 13);
        Due.is("by whom", order.wool(0, 1, 0), 13);
        ShornSins nobody = Due.told("h09;h09", "a2m;a7m;a1l");
        Due.is("by one that there is not", nobody.tax(1), 9 + 9 + 1);
        ShornSins first = Due.told("h09", "c0l");
        first.journey(2, 0, 1);
        first.round(2, 1, 1);
        Due.is("deeds ahead of journeys and rounds", first.cloth(2, 1, 0), 9 + 1 - 2);
    }

    private static void deedsOfTheDead() {
        ShornSins x = Due.told("h09", "d0l;e0m;x0m");
        x.round(3, 0, 1);
        x.round(23, 0, 1);
        x.frost(3);
        Due.is("a deed in the month in which it dies", x.cloth(3, 0, 0), 10);
        Due.is("dies(0)", x.dies(0), 3);
        Due.is("no deed the month behind", x.wool(4, 0, 0), 0);
        Due.is("no deed in month 23", x.wool(23, 0, 0), 0);
        Due.is("no cloth of it", x.cloth(23, 0, 0), 10);
    }

    private static void moulting() {
        Doc.says("Who lives, did nothing in that MONTH, and has no more WOOL than GRACE, MOULTS: 1 less, if it has any");
        for (int grace = 0; grace <= 9; grace++) {
            for (int wool = 0; wool <= 9; wool++) {
                ShornSins x = Due.told("c2" + wool, "");
                x.set(0, grace);
                Due.is("behind month 0, of " + wool + " with grace " + grace, x.wool(0, 0, 0),
                        wool > 0 && wool <= grace ? wool - 1 : wool);
                Due.is("behind month 23, of " + wool + " with grace " + grace, x.wool(23, 0, 0),
                        wool <= grace ? 0 : wool);
            }
        }
        ShornSins ten = Due.told("h09", "a0l");
        ten.set(0, 9);
        Due.is("10 is more than any grace", ten.wool(23, 0, 0), 10);
        ShornSins did = Due.told("h01;h01;h03", "b0l;b7l;c0l;d1l");
        int[] first = {0, 1, 2, 1, 0, 0};
        int[] other = {0, 0, 0, 1, 0, 0};
        for (int month = 0; month < 6; month++) {
            Due.is("did something in months 1 and 2", did.wool(month, 0, 0), first[month]);
            Due.is("did something in month 3", did.wool(month, 1, 0), other[month]);
        }
        ShornSins many = Due.told("h01;h02;h01;h02", "a0l;a3l;a1l");
        int[] left = {2, 3, 0, 3};
        for (int p = 0; p < 4; p++) {
            Due.is("three did something in month 0: wool of " + p, many.wool(0, p, 0), left[p]);
        }
        ShornSins grown = Due.told("h03", "a0l");
        Due.is("heavier than grace by a deed", grown.wool(23, 0, 0), 4);
        ShornSins x = Due.told("h01", "");
        x.journey(0, 0, 1);
        Due.is("moults ahead of the thorn", x.thorn(0), 0);
        ShornSins y = Due.told("h03", "");
        y.round(0, 0, 1);
        Due.is("moults ahead of the round", y.cloth(0, 0, 0), 2);
        ShornSins z = Due.told("h05", "");
        z.journey(0, 0, 1);
        Due.is("no more than grace behind the thorn: not in that month", z.wool(0, 0, 0), 3);
        Due.is("but in the next", z.wool(1, 0, 0), 2);
    }

    private static void journeys() {
        Doc.says("Then JOURNEYS of it, as told, each of a PERSON that lives, to another COUNTY than that in which it is: "
                + "the THORN catches 2 of its WOOL, or what there is");
        for (int wool = 0; wool <= 9; wool++) {
            ShornSins x = Due.told("f0" + wool, "");
            x.set(0, 0);
            x.journey(4, 0, 3);
            int caught = Math.min(2, wool);
            Due.is("thorn(3)", x.thorn(3), 0);
            Due.is("caught of " + wool, x.thorn(4), caught);
            Due.is("left of " + wool, x.wool(4, 0, 0), wool - caught);
            Due.is("where it is", x.wool(4, 0, 1), 3);
        }
        ShornSins x = Due.told("h25", "");
        x.set(0, 0);
        x.journey(1, 0, 2);
        Due.is("to where it is already", x.thorn(23), 0);
        Due.is("its wool", x.wool(1, 0, 0), 5);
        x.journey(1, 0, 0);
        x.journey(1, 0, 0);
        x.journey(1, 0, 2);
        x.journey(1, 0, 3);
        Due.is("there, not again, back, and on: 2, 0, 2, 1", x.thorn(1), 5);
        Due.is("nothing left", x.wool(1, 0, 0), 0);
        Due.is("it goes all the same", x.wool(1, 0, 1), 3);
        ShornSins dead = Due.told("h09", "a0l");
        dead.round(2, 0, 1);
        dead.frost(2);
        dead.journey(2, 0, 0);
        dead.journey(3, 0, 1);
        Due.is("the dead go nowhere", dead.wool(23, 0, 1), 0);
        dead.journey(2, 0, 2);
        Due.is("ahead of the rounds of its month", dead.dies(0), ShornSins.NONE);
        Due.is("who lives goes on", dead.wool(23, 0, 1), 1);
        ShornSins nobody = Due.told("h09", "");
        nobody.journey(0, 1, 3);
        nobody.journey(0, 7, 3);
        Due.is("of one that there is not", nobody.thorn(23), 0);
        Due.type(nobody, 1, "a1m;a7m");
        Due.is("of one that there is not, whatever it did", nobody.thorn(23), 0);
    }

    private static void rounds() {
        Doc.says("Then ROUNDS of it, as told: as many PEOPLE as the PACE, or as there are, who live, are in the COUNTY, "
                + "and have WOOL: those with most, of like ones the least, are SHORN: all their WOOL is CLOTH of that COUNTY");
        int[][] shorn = {{1}, {1, 3}, {1, 3, 0}, {1, 3, 0, 4}};
        int[] cloth = {9, 17, 23, 29};
        for (int pace = 1; pace <= 4; pace++) {
            ShornSins x = Due.told("h06;f09;c19;c08;h06;f06;h00", "");
            x.round(0, 0, pace);
            int bits = 0;
            for (int p : shorn[pace - 1]) {
                bits |= 1 << p;
            }
            for (int p = 0; p < 7; p++) {
                int so = (bits >> p) & 1;
                Due.is("pace " + pace + ": person " + p + " shorn", x.wool(0, p, 2), so);
                Due.is("pace " + pace + ": wool of " + p, x.wool(0, p, 0), so == 1 ? 0 : x.person(p, 2));
            }
            Due.is("pace " + pace + ": cloth", x.cloth(0, 0, 0), cloth[pace - 1]);
            Due.is("pace " + pace + ": cloth elsewhere", x.cloth(23, 1, 0), 0);
        }
        for (int there = 0; there <= 4; there++) {
            ShornSins x = Due.told("h09;h09;h09;h09".substring(0, Math.max(0, 4 * there - 1)), "");
            x.round(0, 0, 4);
            x.round(0, 0, 4);
            Due.is("as many as there are: " + there, x.cloth(0, 0, 0), 9 * there);
        }
        ShornSins none = Due.told("h00;h19", "b0l");
        none.round(0, 0, 4);
        none.round(1, 0, 1);
        Due.is("none without wool", none.wool(0, 0, 2), 0);
        Due.is("one with the least wool", none.wool(1, 0, 2), 1);
        Due.is("its cloth", none.cloth(1, 0, 0), 1);
        ShornSins dead = Due.told("h09;h08", "a0l;d0m");
        dead.round(2, 0, 1);
        dead.frost(2);
        dead.round(3, 0, 1);
        Due.is("not the dead, but who lives", dead.wool(3, 1, 2), 1);
    }

    private static void roundsAsTold() {
        ShornSins x = Due.told("h05;h06;h07;h08", "");
        x.round(4, 0, 1);
        x.round(3, 0, 1);
        x.round(4, 0, 2);
        Due.is("the most in month 3", x.wool(3, 3, 2), 1);
        Due.is("then all others in month 4", x.cloth(4, 0, 0), 8 + 7 + 6 + 5);
        ShornSins y = Due.told("h05;h18", "");
        y.round(2, 0, 1);
        y.round(2, 1, 1);
        Due.is("as told: county 0 first", y.first(1), 0);
        ShornSins z = Due.told("h05;h18", "");
        z.round(2, 1, 1);
        z.round(2, 0, 1);
        Due.is("as told: county 1 first", z.first(1), 1);
        ShornSins twice = Due.told("h09", "");
        twice.round(2, 0, 1);
        twice.round(2, 0, 1);
        Due.is("not twice in a month, without wool", twice.wool(2, 0, 2), 1);
        ShornSins went = Due.told("h09", "");
        went.journey(2, 0, 1);
        went.round(2, 0, 1);
        went.round(2, 1, 1);
        Due.is("behind the journeys: not where it was", went.cloth(2, 0, 0), 0);
        Due.is("but where it is", went.cloth(2, 1, 0), 7);
    }

    /** A hogget that has so much behind month 0, shorn in month 1. */
    private static ShornSins shornOf(int much, int cold) {
        int[] weighs = {9, 4, 3, 1};
        StringBuilder deeds = new StringBuilder();
        int left = Math.max(0, much - 9);
        for (int k = 0; k < 4; k++) {
            for (; left >= weighs[k]; left -= weighs[k]) {
                deeds.append(deeds.length() > 0 ? ";" : "").append("a0").append("mtel".charAt(k));
            }
        }
        ShornSins x = Due.told("h0" + Math.min(9, much), deeds.toString());
        x.set(0, 0);
        x.set(1, cold);
        x.round(1, 0, 1);
        return x;
    }

    private static void frosts() {
        Doc.says("In a MONTH with FROST who is SHORN of as much as COLD, or more, DIES behind that");
        for (int cold = 0; cold <= 30; cold++) {
            for (int much = Math.max(0, cold - 1); much <= cold + 1; much++) {
                ShornSins x = shornOf(much, cold);
                Due.is("shorn of " + much, x.cloth(1, 0, 0), much);
                Due.is("no frost: " + much, x.dies(0), ShornSins.NONE);
                x.frost(0);
                x.frost(2);
                Due.is("frost ahead and behind: " + much, x.dies(0), ShornSins.NONE);
                x.frost(1);
                Due.is("cold " + cold + ", shorn of " + much, x.dies(0),
                        much > 0 && much >= cold ? 1 : ShornSins.NONE);
                Due.is("its cloth all the same", x.cloth(1, 0, 0), much);
            }
        }
        ShornSins twice = shornOf(10, 10);
        twice.frost(1);
        twice.frost(1);
        Due.is("a frost told twice is one", twice.dies(0), 1);
        twice.back(2);
        Due.is("and one is left", twice.dies(0), 1);
        ShornSins two = Due.told("h09;h09", "");
        two.set(1, 9);
        two.frost(0);
        two.round(0, 0, 1);
        two.round(0, 0, 1);
        Due.is("both die, each in its round", two.count(6), 0);
        ShornSins apart = Due.told("h09", "c0t");
        apart.frost(0);
        apart.frost(2);
        apart.round(0, 0, 1);
        apart.round(2, 0, 1);
        Due.is("of each time, not of all: 9 and 4", apart.dies(0), ShornSins.NONE);
    }

    private static void worth() {
        Doc.says("WORTH of CLOTH is 3 for each of a fine one, 1 of a coarse one, 2 of a hogget");
        int[] worths = {3, 1, 2};
        for (int wool = 0; wool < 3; wool++) {
            for (int much = 0; much <= 9; much++) {
                ShornSins x = Due.told("fch".charAt(wool) + "0" + much, "");
                x.set(0, 0);
                x.round(0, 0, 1);
                Due.is("worth of " + much, x.cloth(0, 0, 1), worths[wool] * much);
            }
        }
        ShornSins x = Due.told("f05;c06;h07;f19", "");
        x.round(0, 0, 3);
        Due.is("all together", x.cloth(0, 0, 1), 15 + 6 + 14);
    }

    private static void tax() {
        Doc.says("TAX behind MONTHS 11 and 23: all WOOL on who lives then");
        ShornSins x = Due.told("h09;h09;h09;h09", "k0l;l1e;m2t;x3m");
        Due.is("tax(0): months 10 and 11, not 12", x.tax(0), 36 + 1 + 3);
        Due.is("tax(1): month 23 too", x.tax(1), 36 + 1 + 3 + 4 + 9);
        x.set(1, 9);
        x.frost(11);
        x.frost(12);
        x.round(11, 0, 1);
        Due.is("tax(0): without one that died in month 11", x.tax(0), 28);
        x.round(12, 0, 1);
        Due.is("tax(0): with one that dies in month 12", x.tax(0), 28);
        Due.is("tax(1): without both", x.tax(1), 10 + 9 + 9);
        ShornSins y = Due.told("h08", "");
        y.round(23, 0, 1);
        Due.is("tax(0), shorn in month 23", y.tax(0), 8);
        Due.is("tax(1), shorn in month 23", y.tax(1), 0);
        Due.is("tax(0) of nobody", new ShornSins().tax(0), 0);
        Due.is("tax(1) of nobody", new ShornSins().tax(1), 0);
    }

    private static void behindAMonth() {
        Doc.says("Behind a MONTH of a PERSON: WOOL; the COUNTY in which it is; how often it was SHORN");
        ShornSins x = Due.told("h09;c28", "c0l;c1l;e1l");
        x.journey(3, 1, 1);
        x.round(2, 0, 1);
        x.round(4, 1, 1);
        x.round(5, 1, 1);
        x.journey(5, 1, 3);
        int[][] due = {{8, 2, 0}, {8, 2, 0}, {10, 2, 0}, {8, 1, 0}, {0, 1, 1}, {0, 3, 1}, {0, 3, 1}};
        for (int month = 0; month < due.length; month++) {
            for (int what = 0; what < 3; what++) {
                Due.is("wool(" + month + ", 1, " + what + ")", x.wool(month, 1, what), due[month][what]);
            }
        }
        ShornSins often = Due.told("c09", "a0l;b0l;c0l;d0l;e0l;f0l;g0l;h0l");
        for (int month = 0; month < 8; month++) {
            often.round(month, 0, 4);
        }
        for (int month = 0; month < 24; month++) {
            Due.is("how often, behind month " + month, often.wool(month, 0, 2), Math.min(8, month + 1));
        }
        eightPeople();
    }

    /** What is told of one is nothing to the others, nor to the cloth. */
    private static void eightPeople() {
        ShornSins x = Due.told("h09;h19;h29;h39;h08;h18;h28;h38", "");
        x.round(2, 3, 2);
        x.round(3, 0, 1);
        for (int p = 0; p < 8; p++) {
            boolean shorn = p == 0 || p == 3 || p == 7;
            Due.is("wool(2, " + p + ", 0)", x.wool(2, p, 0), p == 3 || p == 7 ? 0 : p < 4 ? 9 : 8);
            Due.is("wool(23, " + p + ", 0)", x.wool(23, p, 0), shorn ? 0 : p < 4 ? 9 : 8);
            Due.is("wool(23, " + p + ", 1)", x.wool(23, p, 1), p % 4);
            Due.is("wool(23, " + p + ", 2)", x.wool(23, p, 2), shorn ? 1 : 0);
        }
        for (int county = 0; county < 4; county++) {
            int due = county == 0 ? 9 : county == 3 ? 17 : 0;
            Due.is("cloth(23, " + county + ", 0)", x.cloth(23, county, 0), due);
            Due.is("cloth(23, " + county + ", 1)", x.cloth(23, county, 1), 2 * due);
        }
    }

    private static void dying() {
        Doc.says("DIES: in which MONTH (NONE)");
        for (int month = 0; month <= 23; month++) {
            ShornSins x = Due.told("h09;h09;h00", "a0l");
            x.round(month, 0, 4);
            x.frost(month);
            Due.is("dies(0)", x.dies(0), month);
            Due.is("dies(1)", x.dies(1), ShornSins.NONE);
            Due.is("dies(2)", x.dies(2), ShornSins.NONE);
        }
    }

    private static void cloth() {
        Doc.says("CLOTH of a COUNTY behind a MONTH; its WORTH");
        ShornSins x = Due.told("f05;c15;h25;f35", "m0l");
        x.round(0, 0, 1);
        x.round(12, 0, 1);
        x.round(11, 1, 1);
        x.round(22, 2, 1);
        x.round(23, 3, 1);
        for (int month = 0; month <= 23; month++) {
            Due.is("cloth of 0", x.cloth(month, 0, 0), month < 12 ? 5 : 6);
            Due.is("worth in 0", x.cloth(month, 0, 1), month < 12 ? 15 : 18);
            Due.is("cloth of 1", x.cloth(month, 1, 0), month < 11 ? 0 : 5);
            Due.is("worth in 1", x.cloth(month, 1, 1), month < 11 ? 0 : 5);
            Due.is("cloth of 2", x.cloth(month, 2, 0), month < 22 ? 0 : 5);
            Due.is("worth in 2", x.cloth(month, 2, 1), month < 22 ? 0 : 10);
            Due.is("cloth of 3", x.cloth(month, 3, 0), month < 23 ? 0 : 5);
            Due.is("worth in 3", x.cloth(month, 3, 1), month < 23 ? 0 : 15);
        }
    }

    private static void thorn() {
        Doc.says("THORN: what is caught up to a MONTH");
        ShornSins x = Due.told("h09;h03", "");
        x.set(0, 0);
        x.journey(0, 0, 1);
        x.journey(5, 1, 1);
        x.journey(5, 0, 2);
        x.journey(6, 1, 2);
        x.journey(23, 0, 3);
        for (int month = 0; month <= 23; month++) {
            int due = month < 5 ? 2 : month < 6 ? 6 : month < 23 ? 7 : 9;
            Due.is("thorn(" + month + ")", x.thorn(month), due);
        }
        Due.is("thorn(0) of nobody", new ShornSins().thorn(0), 0);
        Due.is("thorn(23) of nobody", new ShornSins().thorn(23), 0);
    }

    private static void bothTaxes() {
        Doc.says("TAX of the first, of the other one");
        ShornSins x = Due.told("h09", "m0l");
        Due.is("tax(0)", x.tax(0), 9);
        Due.is("tax(1)", x.tax(1), 10);
    }

    private static void heaviest() {
        Doc.says("HEAVIEST behind a MONTH: who lives and has most WOOL, of like ones the least; NONE");
        ShornSins x = Due.told("h04;h05;f15;h35", "c3l;d0m");
        int[] due = {1, 1, 3, 0, 0};
        for (int month = 0; month < due.length; month++) {
            Due.is("heaviest(" + month + ")", x.heaviest(month), due[month]);
        }
        Due.is("heaviest(23)", x.heaviest(23), 0);
        ShornSins last = Due.told("h00;h00;h00;h00;h00;h00;h00;h01", "a7l");
        Due.is("the eighth", last.heaviest(0), 7);
        Due.is("all without wool: the least", last.heaviest(23), 0);
        ShornSins dead = Due.told("h09;h00", "a0l");
        dead.round(4, 0, 4);
        dead.frost(4);
        Due.is("the month before it dies", dead.heaviest(3), 0);
        Due.is("the month in which it dies", dead.heaviest(4), 1);
        ShornSins all = Due.told("h09;h09", "a0l;a1l");
        all.round(22, 0, 4);
        all.frost(22);
        Due.is("heaviest(21)", all.heaviest(21), 0);
        Due.is("nobody lives", all.heaviest(22), ShornSins.NONE);
        Due.is("nobody lives in month 23", all.heaviest(23), ShornSins.NONE);
        Due.is("nobody there is", new ShornSins().heaviest(23), ShornSins.NONE);
    }

    private static void first() {
        Doc.says("FIRST: the first MONTH in which one is SHORN; who is it first, by ROUNDS, then as they are SHORN; NONE");
        ShornSins x = Due.told("h04;h06;h06;f19;f29", "");
        Due.is("first(0), no rounds", x.first(0), ShornSins.NONE);
        Due.is("first(1), no rounds", x.first(1), ShornSins.NONE);
        x.round(2, 3, 4);
        Due.is("first(0), a round where nobody is", x.first(0), ShornSins.NONE);
        Due.is("first(1), a round where nobody is", x.first(1), ShornSins.NONE);
        x.round(23, 2, 1);
        Due.is("first(0), month 23", x.first(0), 23);
        Due.is("first(1), month 23", x.first(1), 4);
        x.round(7, 0, 4);
        x.round(7, 1, 2);
        Due.is("first(0), month 7", x.first(0), 7);
        Due.is("first(1): by rounds, then with most, the least of like ones", x.first(1), 1);
        x.round(0, 1, 1);
        Due.is("first(0), month 0", x.first(0), 0);
        Due.is("first(1), month 0", x.first(1), 3);
        for (int n = 4; n >= 0; n--) {
            x.back(0);
        }
        Due.is("first(0), all rounds undone", x.first(0), ShornSins.NONE);
        Due.is("first(1), all rounds undone", x.first(1), ShornSins.NONE);
    }

    private static void promiseWool() {
        Doc.section("Promise 14: wool");
        Doc.says("WOOL (what = 0), COUNTY (1), how often SHORN (2)");
        ShornSins x = Due.told("h09;h28", "");
        x.round(5, 2, 1);
        for (int month = 0; month <= 23; month += 23) {
            Due.is("wool(" + month + ", 0, 0)", x.wool(month, 0, 0), 9);
            Due.is("wool(" + month + ", 0, 1)", x.wool(month, 0, 1), 0);
            Due.is("wool(" + month + ", 0, 2)", x.wool(month, 0, 2), 0);
            Due.is("wool(" + month + ", 1, 0)", x.wool(month, 1, 0), month == 0 ? 8 : 0);
            Due.is("wool(" + month + ", 1, 1)", x.wool(month, 1, 1), 2);
            Due.is("wool(" + month + ", 1, 2)", x.wool(month, 1, 2), month == 0 ? 0 : 1);
        }
        Doc.says("BAD");
        Bounds.of("wool", (y, a) -> y.wool(a[0], a[1], a[2])).month().person().from(0, 2).holdAsking();
    }

    private static void promiseDies() {
        Doc.section("Promise 15: dies");
        Doc.says("DIES; NONE");
        ShornSins x = Due.told("h09;h19", "a0l");
        x.round(0, 0, 1);
        x.round(0, 1, 1);
        Due.is("dies(0), no frost", x.dies(0), ShornSins.NONE);
        x.frost(0);
        Due.is("dies(0) in month 0", x.dies(0), 0);
        Due.is("dies(1)", x.dies(1), ShornSins.NONE);
        Doc.says("BAD");
        Bounds.of("dies", (y, a) -> y.dies(a[0])).person().holdAsking();
    }

    private static void promiseCloth() {
        Doc.section("Promise 16: cloth");
        Doc.says("CLOTH (what = 0), its WORTH (1)");
        ShornSins x = Due.told("f35", "");
        x.round(23, 3, 1);
        Due.is("cloth(23, 3, 0)", x.cloth(23, 3, 0), 5);
        Due.is("cloth(23, 3, 1)", x.cloth(23, 3, 1), 15);
        Due.is("cloth(23, 2, 0)", x.cloth(23, 2, 0), 0);
        Due.is("cloth(0, 0, 0), nobody there", new ShornSins().cloth(0, 0, 0), 0);
        Doc.says("BAD");
        Bounds.of("cloth", (y, a) -> y.cloth(a[0], a[1], a[2])).month().county().from(0, 1).holdAsking();
    }

    private static void promiseThorn() {
        Doc.section("Promise 17: thorn");
        Doc.says("THORN");
        ShornSins x = Due.told("f35", "");
        x.journey(23, 0, 0);
        Due.is("thorn(22)", x.thorn(22), 0);
        Due.is("thorn(23)", x.thorn(23), 2);
        Doc.says("BAD");
        Bounds.of("thorn", (y, a) -> y.thorn(a[0])).month().holdAsking();
    }

    private static void promiseTax() {
        Doc.section("Promise 18: tax");
        Doc.says("TAX (0, 1)");
        ShornSins x = Due.told("c09;c09;c09;c09;c09;c09;c09;c09", "a0m;a1m;a2m;a3m;a4m;a5m;a6m;a7m;l0m;m1m");
        Due.is("tax(0), all there may be", x.tax(0), 8 * 27 + 18);
        Due.is("tax(1), all there may be", x.tax(1), 8 * 27 + 36);
        Doc.says("BAD");
        Bounds.of("tax", (y, a) -> y.tax(a[0])).from(0, 1).holdAsking();
    }

    private static void promiseHeaviest() {
        Doc.section("Promise 19: heaviest");
        Doc.says("HEAVIEST; NONE");
        Due.is("heaviest(0)", Due.told("h08;h09", "").heaviest(0), 1);
        Due.is("heaviest(0) of nobody", new ShornSins().heaviest(0), ShornSins.NONE);
        Doc.says("BAD");
        Bounds.of("heaviest", (y, a) -> y.heaviest(a[0])).month().holdAsking();
    }

    private static void promiseFirst() {
        Doc.section("Promise 20: first");
        Doc.says("FIRST: the MONTH (what = 0), who (1); NONE");
        ShornSins x = Due.told("h08;h09", "");
        Due.is("first(0)", x.first(0), ShornSins.NONE);
        Due.is("first(1)", x.first(1), ShornSins.NONE);
        x.round(6, 0, 1);
        Due.is("first(0), month 6", x.first(0), 6);
        Due.is("first(1), month 6", x.first(1), 1);
        Doc.says("BAD");
        Bounds.of("first", (y, a) -> y.first(a[0])).from(0, 1).holdAsking();
    }
}
