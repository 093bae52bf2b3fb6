/** Promises 21 to 24: plan, light, spare, home. */
final class PlansTest {
    public static void main(String[] args) {
        plan();
        planInFrost();
        light();
        lightOfOthers();
        spare();
        home();
        Due.end();
    }

    private static void planIs(ShornSins x, int pace, int month, int county, int much) {
        Due.is("plan(" + pace + ", 0)", x.plan(pace, 0), month);
        Due.is("plan(" + pace + ", 1)", x.plan(pace, 1), county);
        Due.is("plan(" + pace + ", 2)", x.plan(pace, 2), much);
    }

    private static void plan() {
        ShornSins x = Due.told("f05;c25;c27", "");
        planIs(new ShornSins(), 4, 0, 0, 0);
        planIs(x, 1, 0, 0, 15);
        planIs(x, 2, 0, 0, 15);
        Due.type(x, 1, "f0m;h1t");
        planIs(x, 1, 5, 0, 30);
        planIs(x, 2, 5, 0, 30);
        x.round(6, 0, 1);
        Due.is("a round more, and what others bring", x.plan(2, 2), 30 + 20);
        planIs(x, 2, 7, 2, 50);
        for (int i = 0; i < 7; i++) {
            x.round(0, 3, 1);
        }
        planIs(x, 2, 7, 2, 50);
        planIs(x, 1, 7, 2, 30 + 13);
        Due.is("count(4) stays", x.count(4), 8);
        Due.is("plan(0, 0)", x.plan(0, 0), ShornSins.BAD);
        Due.is("plan(5, 0)", x.plan(5, 0), ShornSins.BAD);
        Due.is("plan(1, -1)", x.plan(1, -1), ShornSins.BAD);
        Due.is("plan(1, 3)", x.plan(1, 3), ShornSins.BAD);
    }

    /** Shorn in the frost it brings nothing later: a round where nobody is does better. */
    private static void planInFrost() {
        ShornSins x = Due.told("h09", "a0l;d0m");
        x.round(5, 0, 1);
        x.frost(0);
        planIs(x, 1, 0, 1, 38);
        x.set(1, 30);
        planIs(x, 1, 0, 0, 38);
    }

    private static void lightIs(ShornSins x, int most, int many, int a, int b) {
        Due.is("light(0, " + most + ", NONE)", x.light(0, most, ShornSins.NONE), many);
        Due.is("light(0, " + most + ", 0)", x.light(0, most, 0), a);
        Due.is("light(0, " + most + ", 1)", x.light(0, most, 1), b);
    }

    private static void light() {
        ShornSins x = Due.told("f00;h09", "a1l;a0m;b0m;c0m");
        x.set(0, 0);
        lightIs(x, 15, 0, -1, -1);
        lightIs(x, 14, 1, 1, -1);
        lightIs(x, 10, 1, 1, -1);
        lightIs(x, 9, 2, 1, 2);
        lightIs(x, 5, 2, 1, 2);
        lightIs(x, 4, -1, -1, -1);
        lightIs(x, 99, 0, -1, -1);
        Due.is("light(1, 9, NONE)", x.light(1, 9, ShornSins.NONE), 1);
        Due.is("light(1, 9, 0)", x.light(1, 9, 0), 0);
        Due.is("light(1, 8, NONE)", x.light(1, 8, ShornSins.NONE), ShornSins.NONE);
        Due.is("light(-1, 0, 0)", x.light(-1, 0, 0), ShornSins.BAD);
        Due.is("light(2, 0, 0)", x.light(2, 0, 0), ShornSins.BAD);
        Due.is("light(0, -1, 0)", x.light(0, -1, 0), ShornSins.BAD);
        Due.is("light(0, 100, 0)", x.light(0, 100, 0), ShornSins.BAD);
        Due.is("light(0, 0, -2)", x.light(0, 0, -2), ShornSins.BAD);
        Due.is("light(0, 0, 2)", x.light(0, 0, 2), ShornSins.BAD);
        x.round(0, 0, 1);
        x.round(1, 0, 1);
        Due.is("shorn between", x.light(0, 5, ShornSins.NONE), 0);
    }

    /** Another's deed keeps one from the shearer. */
    private static void lightOfOthers() {
        ShornSins x = Due.told("h05;h04", "a1m");
        x.round(0, 0, 1);
        lightIs(x, 4, 1, 0, -1);
    }

    private static void spareIs(ShornSins x, int many, int a, int b) {
        Due.is("spare(NONE)", x.spare(ShornSins.NONE), many);
        Due.is("spare(0)", x.spare(0), a);
        Due.is("spare(1)", x.spare(1), b);
    }

    private static void spare() {
        ShornSins x = Due.told("h09;h19;h29;h39", "");
        x.set(1, 9);
        x.frost(5);
        spareIs(x, 0, -1, -1);
        x.round(4, 0, 1);
        spareIs(x, 0, -1, -1);
        x.round(5, 1, 1);
        spareIs(x, 1, 1, -1);
        x.round(6, 3, 1);
        x.round(5, 2, 1);
        spareIs(x, 2, 1, 3);
        x.round(5, 3, 1);
        spareIs(x, -1, -1, -1);
        Due.is("count(4) stays", x.count(4), 5);
        Due.is("spare(-2)", x.spare(-2), ShornSins.BAD);
        Due.is("spare(2)", x.spare(2), ShornSins.BAD);
    }

    private static void home() {
        ShornSins x = Due.told("f05;h19", "d0m");
        Due.is("home(0, 0) of no rounds", x.home(0, 0), 0);
        Due.is("home(0, 1) of no rounds", x.home(0, 1), 0);
        x.round(1, 0, 1);
        x.round(2, 2, 1);
        Due.is("home(0, 0): like ones", x.home(0, 0), 0);
        Due.is("home(0, 1): like ones", x.home(0, 1), 5);
        x.round(6, 2, 1);
        Due.is("home(0, 0)", x.home(0, 0), 2);
        Due.is("home(0, 1): in all", x.home(0, 1), 10);
        Due.is("home(1, 0)", x.home(1, 0), 0);
        Due.is("home(1, 1)", x.home(1, 1), 9);
        x.journey(0, 1, 3);
        x.round(9, 3, 4);
        Due.is("home(1, 0): where it goes anyway", x.home(1, 0), 3);
        Due.is("home(1, 1): without thorns", x.home(1, 1), 9);
        Due.is("person(1, 1) stays", x.person(1, 1), 1);
        Due.is("home(-1, 0)", x.home(-1, 0), ShornSins.BAD);
        Due.is("home(2, 0)", x.home(2, 0), ShornSins.BAD);
        Due.is("home(0, -1)", x.home(0, -1), ShornSins.BAD);
        Due.is("home(0, 2)", x.home(0, 2), ShornSins.BAD);
    }
}
